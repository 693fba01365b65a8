/-! ===== the cheapest eviction: the class ===== -/
theorem cn_str {p : Nat → Bool} {i : Nat} (hp : p i = true) : cn p (i + 1) = cn p i + 1 := by rw [cn, hp]; rfl
theorem cn_mo (p : Nat → Bool) {i j : Nat} (h : i ≤ j) : cn p i ≤ cn p j := by
  induction j with
  | zero => rw [show i = 0 by omega]; exact Nat.le_refl _
  | succ j ih =>
    by_cases e : i = j + 1
    · rw [e]; exact Nat.le_refl _
    · have := ih (by omega)
      rw [cn]
      omega
/-- the p-th that is taken -/
theorem cn_ex (p : Nat → Bool) : ∀ (n k : Nat), k < cn p n → ∃ i, i < n ∧ p i = true ∧ cn p i = k
  | 0, _, h => by simp [cn] at h
  | n + 1, k, h => by
    rw [cn] at h
    by_cases q : k < cn p n
    · obtain ⟨i, h1, h2, h3⟩ := cn_ex p n k q
      exact ⟨i, by omega, h2, h3⟩
    · cases hp : p n with
      | false => rw [hp] at h; simp at h; omega
      | true =>
        rw [hp] at h
        simp at h
        exact ⟨n, by omega, hp, by omega⟩
theorem cn_in {p : Nat → Bool} {i j : Nat} (hi : p i = true) (hj : p j = true) (h : cn p i = cn p j) : i = j := by
  apply Classical.byContradiction
  intro q
  by_cases l : i < j
  · have := cn_mo p (show i + 1 ≤ j by omega)
    rw [cn_str hi] at this
    omega
  · have := cn_mo p (show j + 1 ≤ i by omega)
    rw [cn_str hj] at this
    omega
section EX
variable {I I' I0 I1 I2 I3 I4 : Nat → Nat → Int32} {J J' J1 J2 J3 J4 : Nat → Nat → Int64} {x : Nat} {NH NY NE NR s d u tp u' tp' : Nat} {f g f' : Nat → Int64} {H S H' : Nat → Nat → Int64} {b : Nat → Bool}
theorem okV : ok_X3 192 := rfl
theorem tbVs : tb 193 12 4 := ⟨rfl, rfl, by decide, by decide⟩
theorem evR : ab_fR (S0, I, J, x) 3 192 0 = some 193 := fR_X3_0 okV
theorem ev_has {p n : Nat} (hn : I 193 3 = nI n) (h1 : p < 1000) (h2 : n < 1000) : dd_X10_has 193 (nI p) (S0, I, J, x) = some (if p < n then 1 else 0, (S0, I, J, x)) := by
  rw [tb_has tbVs.1, hn, if_neg (li_pos (by omega))]
  by_cases q : p < n
  · rw [if_pos q, if_neg (show ¬ nI n ≤ nI p by rw [li_le (by omega) (by omega)]; omega)]
  · rw [if_neg q, if_pos (show nI n ≤ nI p by rw [li_le (by omega) (by omega)]; omega)]
/-- the best so far -/
def BS (I : Nat → Nat → Int32) (f : Nat → Int64) (bo : Option Nat) : Prop := I 192 1 = boI bo ∧ I 192 2 = (match bo with | none => nI 119989 | some t => nI (smt (bN f) t))
def only191 (I I' : Nat → Nat → Int32) : Prop := ∀ r, r ≠ 192 → I' r = I r
theorem bcf_cnt {t : Nat} (h : t < 4096) : bcf (nI t) = nI (cnt t) := bcf_n h
/-- a set is held against the best -/
theorem c_keep {t : Nat} {bo : Option Nat} (ht : t < 4096) (hbs : BS I f bo) (hbo : ∀ t0, bo = some t0 → t0 < 4096) (hle : ∀ t0, bo = some t0 → smt (bN f) t ≤ smt (bN f) t0) (hB : ∀ t0, bo = some t0 → smt (bN f) t0 ≤ 119988) (hT : smt (bN f) t ≤ 119988) :
    ∃ I' bo', dd_X3_keep 192 (nI t) (nI (smt (bN f) t)) (S0, I, J, x) = some ((), (S0, I', J, x)) ∧ only191 I I' ∧ BS I' f bo' ∧ (bo' = some t ∨ bo' = bo) ∧ (∃ t1, bo' = some t1 ∧ Ky (bN f) t1 ≤ Ky (bN f) t) ∧ (∀ t0, bo = some t0 → ∃ t1, bo' = some t1 ∧ Ky (bN f) t1 ≤ Ky (bN f) t0) := by
  have take : (∀ t0, bo = some t0 → Ky (bN f) t ≤ Ky (bN f) t0) → ∃ I' bo', bb_X3_keep_45 192 (nI t) (nI (smt (bN f) t)) (S0, I, J, x) = some ((), (S0, I', J, x)) ∧ only191 I I' ∧ BS I' f bo' ∧ (bo' = some t ∨ bo' = bo) ∧ (∃ t1, bo' = some t1 ∧ Ky (bN f) t1 ≤ Ky (bN f) t) ∧ (∀ t0, bo = some t0 → ∃ t1, bo' = some t1 ∧ Ky (bN f) t1 ≤ Ky (bN f) t0) := by
    intro hk
    refine ⟨ab_u (ab_u I 192 1 (nI t)) 192 2 (nI (smt (bN f) t)), some t, ?_, fun r hr => by rw [u_r hr, u_r hr], ⟨by rw [u_k (by omega), u_e]; rfl, u_e⟩, Or.inl rfl, ⟨t, rfl, Nat.le_refl _⟩, fun t0 h0 => ⟨t, rfl, hk t0 h0⟩⟩
    unfold bb_X3_keep_45
    rw [pI_X3_1 okV, ob_s, pI_X3_2 okV, ob_s]
    rfl
  unfold dd_X3_keep
  rw [fI_X3_1 okV, ob_s, hbs.1, bc_is, ob_s, bc_is, ob_s, fI_X3_1 okV, ob_s, hbs.1]
  cases bo with
  | none =>
    rw [if_pos (show boI none = -1 from rfl)]
    exact take (fun t0 h0 => by cases h0)
  | some t0 =>
    have h4 := hbo t0 rfl
    have hl := hle t0 rfl
    have hb := hB t0 rfl
    have c1 := cnt_le t
    have c2 := cnt_le t0
    have e3 : I 192 2 = nI (smt (bN f) t0) := hbs.2
    rw [if_neg (show ¬ boI (some t0) = -1 from nI_ne (by omega)), fI_X3_2 okV, ob_s, e3]
    show ∃ I' bo', (if nI (smt (bN f) t) < nI (smt (bN f) t0) then _ else if 0 < bcf (nI t0) - bcf (nI t) then _ else if bcf (nI t0) - bcf (nI t) = 0 then _ else _) = _ ∧ _
    rw [bcf_cnt h4, bcf_cnt ht]
    have ez : (nI (cnt t0) - nI (cnt t)).toInt = (cnt t0 : Int) - cnt t := pk_sub_toInt (by omega) (by omega)
    have l0 : (0 < nI (cnt t0) - nI (cnt t)) = (cnt t < cnt t0) := by
      rw [Int32.lt_iff_toInt_lt, ez]
      show ((0 : Int) < _) = _
      exact propext ⟨fun w => by omega, fun w => by omega⟩
    have l1 : (nI (cnt t0) - nI (cnt t) = 0) = (cnt t0 = cnt t) := by
      rw [← Int32.toInt_inj, ez]
      show (_ = (0 : Int)) = _
      exact propext ⟨fun w => by omega, fun w => by omega⟩
    simp only [l0, l1]
    by_cases q1 : smt (bN f) t < smt (bN f) t0
    · rw [if_pos (by rw [li_lt (by omega) (by omega)]; exact q1)]
      refine take (fun t0' h0 => ?_)
      cases h0
      unfold Ky
      omega
    · rw [if_neg (by rw [li_lt (by omega) (by omega)]; exact q1)]
      have qe : smt (bN f) t = smt (bN f) t0 := by omega
      by_cases q2 : cnt t < cnt t0
      · rw [if_pos q2]
        refine take (fun t0' h0 => ?_)
        cases h0
        unfold Ky
        rw [qe]
        omega
      · rw [if_neg q2]
        have stay : Ky (bN f) t0 ≤ Ky (bN f) t → ∃ I' bo', bb_X3_keep_55 (S0, I, J, x) = some ((), (S0, I', J, x)) ∧ only191 I I' ∧ BS I' f bo' ∧ (bo' = some t ∨ bo' = some t0) ∧ (∃ t1, bo' = some t1 ∧ Ky (bN f) t1 ≤ Ky (bN f) t) ∧ (∀ t0', some t0 = some t0' → ∃ t1, bo' = some t1 ∧ Ky (bN f) t1 ≤ Ky (bN f) t0') := by
          intro hk
          exact ⟨I, some t0, rfl, fun _ _ => rfl, hbs, Or.inr rfl, ⟨t0, rfl, hk⟩, fun t0' h0 => by cases h0; exact ⟨t0, rfl, Nat.le_refl _⟩⟩
        by_cases q3 : cnt t0 = cnt t
        · rw [if_pos q3, ob_s]
          show ∃ I' bo', (if nI t0 ≤ nI t then _ else _) = _ ∧ _
          by_cases q4 : t0 ≤ t
          · rw [if_pos (by rw [li_le (by omega) (by omega)]; exact q4)]
            refine stay ?_
            unfold Ky
            rw [qe, q3]
            omega
          · rw [if_neg (by rw [li_le (by omega) (by omega)]; exact q4)]
            refine take (fun t0' h0 => ?_)
            cases h0
            unfold Ky
            rw [qe, q3]
            omega
        · rw [if_neg q3]
          refine stay ?_
          unfold Ky
          rw [qe]
          omega
/-- the search -/
def spC (I0 I : Nat → Nat → Int32) (f : Nat → Int64) (k i : Nat) : Prop := I (193 + 1) (k * 4 + 0) = nI (tyN I0 f 0 i) ∧ I (193 + 1) (k * 4 + 1) = nI (tyN I0 f 1 i) ∧ I (193 + 1) (k * 4 + 2) = nI (bN f i) ∧ I (193 + 1) (k * 4 + 3) = nI i
def spots (I0 I : Nat → Nat → Int32) (f : Nat → Int64) (h : Nat) : Prop := tI I 193 12 4 ∧ I 193 3 = nI (cn (spB f h) 12) ∧ ∀ i, i < 12 → spB f h i = true → spC I0 I f (cn (spB f h) i) i
/-- t takes set, and of the others those from place p on -/
def cmp (f : Nat → Int64) (h p st t : Nat) : Prop := sbs st t ∧ ∀ i, t.testBit i = true → st.testBit i = true ∨ (i < 12 ∧ spB f h i = true ∧ p ≤ cn (spB f h) i)
theorem cmp_sp {h p st t : Nat} (hs : sbs st (spA f h)) (hc : cmp f h p st t) : sbs t (spA f h) := fun i hi => by
  rcases hc.2 i hi with q | q
  · exact hs i q
  · unfold spA
    rw [bs_bit]
    simp [q.1, q.2.1]
abbrev sfi (I0 : Nat → Nat → Int32) (f : Nat → Int64) (h y t : Nat) : Prop := sff (tyN I0 f 0) (tyN I0 f 1) (tN I0 y 0) (tN I0 y 1) (frN I0 f h 0) (frN I0 f h 1) t
/-- what the search leaves -/
def chR (I0 I : Nat → Nat → Int32) (f : Nat → Int64) (h y p st : Nat) (bo : Option Nat) (J : Nat → Nat → Int64) (x : Nat) (res : Option (Unit × ab_Mm)) : Prop :=
  ∃ I' bo', res = some ((), (S0, I', J, x)) ∧ only191 I I' ∧ BS I' f bo' ∧ (∀ t0, bo = some t0 → ∃ t1, bo' = some t1 ∧ Ky (bN f) t1 ≤ Ky (bN f) t0) ∧ (bo' = bo ∨ ∃ t1, bo' = some t1 ∧ sbs t1 (spA f h) ∧ sfi I0 f h y t1) ∧ (∀ t, cmp f h p st t → sfi I0 f h y t → ∃ t1, bo' = some t1 ∧ Ky (bN f) t1 ≤ Ky (bN f) t)
theorem ky_sub (hw : wff I0 NH NY NE f) {h st t : Nat} (ht : sbs t (spA f h)) (hs : sbs st t) : Ky (bN f) st ≤ Ky (bN f) t := by
  by_cases e : st = t
  · rw [e]; exact Nat.le_refl _
  · obtain ⟨i, hi⟩ : ∃ i, st.testBit i ≠ t.testBit i := by
      apply Classical.byContradiction
      intro q
      exact e (Nat.eq_of_testBit_eq (fun i => Classical.byContradiction (fun w => q ⟨i, w⟩)))
    have h1 : t.testBit i = true := by
      cases q : t.testBit i with
      | true => rfl
      | false =>
        rw [q] at hi
        have : st.testBit i = true := by simpa using hi
        rw [hs i this] at q
        cases q
    have h0 : st.testBit i = false := by
      rw [h1] at hi
      simpa using hi
    have sp := spA_bit h (ht i h1)
    have lt := smt_lt (g := bN f) hs sp.1 h0 h1 (bN_is hw sp.1 sp.2).2.1
    have c1 := cnt_le st
    have c2 := cnt_le t
    have b1 := sbs_lt ht (spA_lt h)
    have b2 := sbs_le hs
    unfold Ky
    omega
theorem c_chHead (hg : mrg I0 NH NY NE NR) (hw : wff I0 NH NY NE f) {h y p st n : Nat} (hh : h < NH) (hy : y < NY) {c m : Int32} {bo : Option Nat} (hst : sbs st (spA f h))
    (hcq : c.toInt = (tN I0 y 0 : Int) - frN I0 f h 0 - smt (tyN I0 f 0) st) (hmq : m.toInt = (tN I0 y 1 : Int) - frN I0 f h 1 - smt (tyN I0 f 1) st) (hbs : BS I f bo) (hbo : ∀ t0, bo = some t0 → sbs t0 (spA f h))
    (hK : ¬ sfi I0 f h y st → chR I0 I f h y p st bo J x (bb_X3_choose_27 (dd_X3_choose n) 192 (nI p) (nI st) c m (nI (smt (bN f) st)) (S0, I, J, x))) :
    chR I0 I f h y p st bo J x (dd_X3_choose (n + 1) 192 (nI p) (nI st) c m (nI (smt (bN f) st)) (S0, I, J, x)) := by
  have hA := spA_lt (f := f) h
  have hst4 := sbs_lt hst hA
  have bB := smt_bd hw hst
  have hb4 : ∀ t0, bo = some t0 → t0 < 4096 := fun t0 h0 => sbs_lt (hbo t0 h0) hA
  have hbB : ∀ t0, bo = some t0 → smt (bN f) t0 ≤ 119988 := fun t0 h0 => smt_bd hw (hbo t0 h0)
  show chR I0 I f h y p st bo J x (st_X3_choose (dd_X3_choose n) 192 (nI p) (nI st) c m (nI (smt (bN f) st)) (S0, I, J, x))
  unfold st_X3_choose
  rw [fI_X3_2 okV, ob_s, hbs.2]
  have l0 : (0 < c) = ¬ (tN I0 y 0 ≤ frN I0 f h 0 + smt (tyN I0 f 0) st) := by
    rw [Int32.lt_iff_toInt_lt, hcq]
    show ((0 : Int) < _) = _
    exact propext ⟨fun w => by omega, fun w => by omega⟩
  have l1 : (0 < m) = ¬ (tN I0 y 1 ≤ frN I0 f h 1 + smt (tyN I0 f 1) st) := by
    rw [Int32.lt_iff_toInt_lt, hmq]
    show ((0 : Int) < _) = _
    exact propext ⟨fun w => by omega, fun w => by omega⟩
  have go : (∀ t0, bo = some t0 → smt (bN f) st ≤ smt (bN f) t0) → chR I0 I f h y p st bo J x (if 0 < c then bb_X3_choose_27 (dd_X3_choose n) 192 (nI p) (nI st) c m (nI (smt (bN f) st)) (S0, I, J, x) else if 0 < m then bb_X3_choose_27 (dd_X3_choose n) 192 (nI p) (nI st) c m (nI (smt (bN f) st)) (S0, I, J, x) else (ab_rc (S0, I, J, x) 3 192).bind fun _ => (dd_X3_keep 192 (nI st) (nI (smt (bN f) st)) (S0, I, J, x)).bind fun q2 => some ((), q2.2)) := by
    intro hle
    by_cases q0 : 0 < c
    · rw [if_pos q0]
      rw [l0] at q0
      exact hK (fun w => q0 w.1)
    · rw [if_neg q0]
      by_cases q1 : 0 < m
      · rw [if_pos q1]
        rw [l1] at q1
        exact hK (fun w => q1 w.2)
      · rw [if_neg q1, rc_X3 okV, ob_s]
        rw [l0] at q0
        rw [l1] at q1
        have hsf : sfi I0 f h y st := ⟨Classical.byContradiction q0, Classical.byContradiction q1⟩
        obtain ⟨I', bo', k1, k2, k3, k4, ⟨t1, k5, k6⟩, k7⟩ := @c_keep I J x f st bo hst4 hbs hb4 hle hbB bB
        refine ⟨I', bo', by rw [k1, ob_s], k2, k3, k7, ?_, fun t hcm hsf2 => ⟨t1, k5, Nat.le_trans k6 (ky_sub hw (cmp_sp hst hcm) hcm.1)⟩⟩
        rcases k4 with w | w
        · exact Or.inr ⟨st, w, hst, hsf⟩
        · exact Or.inl w
  cases bo with
  | none =>
    rw [if_pos (by rw [li_le (by omega) (by omega)]; omega)]
    exact go (fun t0 h0 => by cases h0)
  | some t0 =>
    have b0 := hbB t0 rfl
    show chR I0 I f h y p st (some t0) J x (if nI (smt (bN f) st) ≤ nI (smt (bN f) t0) then _ else _)
    by_cases q : smt (bN f) st ≤ smt (bN f) t0
    · rw [if_pos (by rw [li_le (by omega) (by omega)]; exact q)]
      exact go (fun t0' h0 => by cases h0; exact q)
    · rw [if_neg (by rw [li_le (by omega) (by omega)]; exact q)]
      refine ⟨I, some t0, rfl, fun _ _ => rfl, hbs, fun t0' h0 => ⟨t0, rfl, by cases h0; exact Nat.le_refl _⟩, Or.inl rfl, fun t hcm _ => ⟨t0, rfl, ?_⟩⟩
      have := smt_le (g := bN f) hcm.1
      have c1 := cnt_le t0
      have c4 := hb4 t0 rfl
      unfold Ky
      omega
theorem c_choose (hc : mc I0 NH NY NE NR) (hg : mrg I0 NH NY NE NR) (hw : wff I0 NH NY NE f) {h y : Nat} (hh : h < NH) (hy : y < NY) : ∀ (q p n st : Nat) (I : Nat → Nat → Int32) (c m : Int32) (bo : Option Nat), p + q = cn (spB f h) 12 → q < n → spots I0 I f h → sbs st (spA f h) → (∀ i, st.testBit i = true → cn (spB f h) i < p) →
    c.toInt = (tN I0 y 0 : Int) - frN I0 f h 0 - smt (tyN I0 f 0) st → m.toInt = (tN I0 y 1 : Int) - frN I0 f h 1 - smt (tyN I0 f 1) st → BS I f bo → (∀ t0, bo = some t0 → sbs t0 (spA f h)) →
    chR I0 I f h y p st bo J x (dd_X3_choose n 192 (nI p) (nI st) c m (nI (smt (bN f) st)) (S0, I, J, x)) := by
  have h8 := hc.2.1
  have h6 := hc.2.2.1
  have hA := spA_lt (f := f) h
  have h12 := cn_le (spB f h) 12
  intro q
  induction q with
  | zero =>
    intro p n st I c m bo hpq hn hsp hst hpl hcq hmq hbs hbo
    obtain ⟨n, rfl⟩ : ∃ z, n = z + 1 := ⟨n - 1, by omega⟩
    refine c_chHead hg hw hh hy hst hcq hmq hbs hbo (fun hns => ?_)
    refine ⟨I, bo, ?_, fun _ _ => rfl, hbs, fun t0 h0 => ⟨t0, h0, Nat.le_refl _⟩, Or.inl rfl, fun t hcm hsf => absurd hsf ?_⟩
    · unfold bb_X3_choose_27
      rw [evR, ob_s, rc_X10 tbVs.1, ob_s, ev_has hsp.2.1 (by omega) (by omega), ob_s, if_neg (show ¬ p < cn (spB f h) 12 by omega), if_pos rfl]
    · have e : t = st := by
        apply Nat.eq_of_testBit_eq
        intro i
        cases q1 : t.testBit i with
        | true =>
          rcases hcm.2 i q1 with w | w
          · exact w.symm
          · have := cn_mo (spB f h) (show i + 1 ≤ 12 by omega)
            rw [cn_str w.2.1] at this
            omega
        | false =>
          cases q2 : st.testBit i with
          | false => rfl
          | true => rw [hcm.1 i q2] at q1; cases q1
      rw [e]; exact hns
  | succ q ih =>
    intro p n st I c m bo hpq hn hsp hst hpl hcq hmq hbs hbo
    obtain ⟨n, rfl⟩ : ∃ z, n = z + 1 := ⟨n - 1, by omega⟩
    refine c_chHead hg hw hh hy hst hcq hmq hbs hbo (fun hns => ?_)
    obtain ⟨i, hi, hsi, hcn⟩ := cn_ex (spB f h) 12 p (by omega)
    have hrn := (spB_is hsi).1
    have wi := hw.2.2.1 i hi hrn
    have hty : ty f i < NY := wi.2.1.2
    have tq0 := tN_is hg hty (show 0 < 2 by omega)
    have tq1 := tN_is hg hty (show 1 < 2 by omega)
    have hbit : st.testBit i = false := by
      cases w : st.testBit i with
      | false => rfl
      | true => have := hpl i w; omega
    have hs4 := sbs_lt hst hA
    have sbT0 : smt (tyN I0 f 0) st ≤ 12 * 256 := smt_B (fun j hj hb => (tN_is hg (ty_lt hw.2.2.1 hj (spB_is (spA_bit h (hst j hb)).2).1) (show 0 < 2 by omega)).2.2)
    have sbT1 : smt (tyN I0 f 1) st ≤ 12 * 256 := smt_B (fun j hj hb => (tN_is hg (ty_lt hw.2.2.1 hj (spB_is (spA_bit h (hst j hb)).2).1) (show 1 < 2 by omega)).2.2)
    have f0 := frN_is hg hw hh (show 0 < 2 by omega)
    have f1 := frN_is hg hw hh (show 1 < 2 by omega)
    have ty0 := tN_is hg hy (show 0 < 2 by omega)
    have ty1 := tN_is hg hy (show 1 < 2 by omega)
    have u0 : tyN I0 f 0 i ≤ 256 := tq0.2.2
    have u1 : tyN I0 f 1 i ≤ 256 := tq1.2.2
    have or0 := smt_or (g := tyN I0 f 0) hi hbit
    have or1 := smt_or (g := tyN I0 f 1) hi hbit
    have orb := smt_or (g := bN f) hi hbit
    have subI : ∀ (z : Int32) (k : Nat), -10000 ≤ z.toInt → z.toInt ≤ 10000 → k ≤ 1000 → (z - nI k).toInt = z.toInt - k := by
      intro z k z1 z2 hk
      rw [Int32.toInt_sub, nI_toInt (by omega)]
      exact Int.bmod_eq_of_le (by omega) (by omega)
    have c1 := subI c (tyN I0 f 0 i) (by rw [hcq]; omega) (by rw [hcq]; omega) (by omega)
    have c2 := subI m (tyN I0 f 1 i) (by rw [hmq]; omega) (by rw [hmq]; omega) (by omega)
    have hst2 : sbs (st ||| 2 ^ i) (spA f h) := fun j hj => by
      rw [or_bit] at hj
      rcases (Bool.or_eq_true _ _).mp hj with w | w
      · exact hst j w
      · have e : i = j := by simpa using w
        rw [← e]
        unfold spA
        rw [bs_bit]
        simp [hi, hsi]
    obtain ⟨I1, bo1, r1, r2, r3, r4, r5, r6⟩ := ih (p + 1) n (st ||| 2 ^ i) I (c - nI (tyN I0 f 0 i)) (m - nI (tyN I0 f 1 i)) bo (by omega) (by omega) hsp hst2 (fun j hj => by
      rw [or_bit] at hj
      rcases (Bool.or_eq_true _ _).mp hj with w | w
      · have := hpl j w; omega
      · have e : i = j := by simpa using w
        rw [← e]; omega) (by rw [c1, hcq, or0]; omega) (by rw [c2, hmq, or1]; omega) hbs hbo
    have hsp1 : spots I0 I1 f h := by
      unfold spots spC tI at hsp ⊢
      rw [r2 193 (by omega), r2 (193 + 1) (by omega)]
      exact hsp
    have hbo1 : ∀ t0, bo1 = some t0 → sbs t0 (spA f h) := fun t0 h0 => by
      rcases r5 with w | ⟨t1, w1, w2, _⟩
      · exact hbo t0 (by rw [← w]; exact h0)
      · rw [w1] at h0
        cases h0
        exact w2
    obtain ⟨I2, bo2, v1, v2, v3, v4, v5, v6⟩ := ih (p + 1) n st I1 c m bo1 (by omega) (by omega) hsp1 hst (fun j hj => by have := hpl j hj; omega) hcq hmq r3 hbo1
    refine ⟨I2, bo2, ?_, fun r hr => (v2 r hr).trans (r2 r hr), v3, fun t0 h0 => ?_, ?_, fun t hcm hsf => ?_⟩
    · have hS := hsp.2.2 i hi hsi
      rw [hcn] at hS
      have g0 : dd_X10_get 193 (nI p) 0 (S0, I, J, x) = some (nI (tyN I0 f 0 i), (S0, I, J, x)) := by
        rw [tb_get tbVs hsp.1 rfl li_0 (show p < 12 by omega) (by omega), hS.1]
      have g1 : dd_X10_get 193 (nI p) 1 (S0, I, J, x) = some (nI (tyN I0 f 1 i), (S0, I, J, x)) := by
        rw [tb_get tbVs hsp.1 rfl (li_n 1) (show p < 12 by omega) (by omega), hS.2.1]
      have g2 : dd_X10_get 193 (nI p) 2 (S0, I, J, x) = some (nI (bN f i), (S0, I, J, x)) := by
        rw [tb_get tbVs hsp.1 rfl (li_n 2) (show p < 12 by omega) (by omega), hS.2.2.1]
      have g3 : dd_X10_get 193 (nI p) 3 (S0, I, J, x) = some (nI i, (S0, I, J, x)) := by
        rw [tb_get tbVs hsp.1 rfl (li_n 3) (show p < 12 by omega) (by omega), hS.2.2.2]
      unfold bb_X3_choose_27
      rw [evR, ob_s, rc_X10 tbVs.1, ob_s, ev_has hsp.2.1 (by omega) (by omega), ob_s, if_pos (show p < cn (spB f h) 12 by omega), if_neg n10, rc_X10 tbVs.1, ob_s, g3, ob_s, rc_X10 tbVs.1, ob_s, g0, ob_s, rc_X10 tbVs.1, ob_s, g1, ob_s, rc_X10 tbVs.1, ob_s, g2, ob_s, nI_1, li_sh1 i hi, li_or, li_add, ← orb, r1, ob_s, v1, ob_s]
    · obtain ⟨ta, a1, a2⟩ := r4 t0 h0
      obtain ⟨tb, b1, b2⟩ := v4 ta a1
      exact ⟨tb, b1, Nat.le_trans b2 a2⟩
    · rcases v5 with w | w
      · rcases r5 with w2 | w2
        · exact Or.inl (w.trans w2)
        · rw [w]; exact Or.inr w2
      · exact Or.inr w
    · by_cases hti : t.testBit i = true
      · obtain ⟨ta, a1, a2⟩ := r6 t ⟨fun j hj => by
          rw [or_bit] at hj
          rcases (Bool.or_eq_true _ _).mp hj with w | w
          · exact hcm.1 j w
          · have e : i = j := by simpa using w
            rw [← e]; exact hti, fun j hj => by
          rcases hcm.2 j hj with w | w
          · left; rw [or_bit, w]; rfl
          · by_cases e : i = j
            · left; rw [or_bit]; simp [e]
            · right
              refine ⟨w.1, w.2.1, ?_⟩
              have : cn (spB f h) j ≠ p := fun q => e (cn_in hsi w.2.1 (hcn.trans q.symm))
              omega⟩ hsf
        obtain ⟨tb, b1, b2⟩ := v4 ta a1
        exact ⟨tb, b1, Nat.le_trans b2 a2⟩
      · exact v6 t ⟨hcm.1, fun j hj => by
          rcases hcm.2 j hj with w | w
          · exact Or.inl w
          · right
            refine ⟨w.1, w.2.1, ?_⟩
            have : cn (spB f h) j ≠ p := fun q => hti (by rw [cn_in hsi w.2.1 (hcn.trans q.symm)]; exact hj)
            omega⟩ hsf
end EX
