/-! ===== the cheapest eviction: sets and their keys ===== -/
/-- sum over a set -/
def smt (g : Nat → Nat) (t : Nat) : Nat := sn (fun i => if t.testBit i then g i else 0) 12
def sbs (t a : Nat) : Prop := ∀ i, t.testBit i = true → a.testBit i = true
theorem or_bit (t i j : Nat) : (t ||| 2 ^ i).testBit j = (t.testBit j || decide (i = j)) := by rw [Nat.testBit_or, Nat.testBit_two_pow]
theorem smt_or {g : Nat → Nat} {t i : Nat} (hi : i < 12) (h : t.testBit i = false) : smt g (t ||| 2 ^ i) = smt g t + g i := by
  unfold smt
  have q := sn_upd (g := fun k => if t.testBit k then g k else 0) (g' := fun k => if (t ||| 2 ^ i).testBit k then g k else 0) (j := i) (n := 12) hi (by simp [h]) (fun k hk hne => by
    rw [or_bit]
    have : ¬ i = k := fun q => hne q.symm
    simp [this])
  rw [q]
  simp [or_bit]
theorem smt_0 (g : Nat → Nat) : smt g 0 = 0 := by
  have : sn (fun i => if (0 : Nat).testBit i then g i else 0) 12 = sn (fun _ => 0) 12 := sn_congr (fun k _ => by simp)
  unfold smt
  rw [this]
  decide
theorem smt_le {g : Nat → Nat} {t t' : Nat} (h : sbs t t') : smt g t ≤ smt g t' := by
  unfold smt
  refine sn_mono (fun k hk => ?_)
  by_cases q : t.testBit k = true
  · rw [if_pos q, if_pos (h k q)]; exact Nat.le_refl _
  · rw [if_neg q]; exact Nat.zero_le _
theorem smt_lt {g : Nat → Nat} {t t' : Nat} (h : sbs t t') {i : Nat} (hi : i < 12) (h0 : t.testBit i = false) (h1 : t'.testBit i = true) (hg : 1 ≤ g i) : smt g t < smt g t' := by
  have h2 : sbs (t ||| 2 ^ i) t' := fun j hj => by
    rw [or_bit] at hj
    rcases (Bool.or_eq_true _ _).mp hj with q | q
    · exact h j q
    · have : i = j := by simpa using q
      rw [← this]; exact h1
  have q := smt_le (g := g) h2
  rw [smt_or hi h0] at q
  omega
theorem smt_B {g : Nat → Nat} {B t : Nat} (h : ∀ i, i < 12 → t.testBit i = true → g i ≤ B) : smt g t ≤ 12 * B := by
  unfold smt
  refine sn_le (fun i hi => ?_)
  by_cases q : t.testBit i = true
  · rw [if_pos q]; exact h i hi q
  · rw [if_neg q]; exact Nat.zero_le _
def cnt (t : Nat) : Nat := cn (fun j => t.testBit j) 12
theorem cnt_le (t : Nat) : cnt t ≤ 12 := cn_le _ _
/-- the order of the sets: bids, then how many, then the number -/
def Ky (g : Nat → Nat) (t : Nat) : Nat := (smt g t * 16 + cnt t) * 4096 + t
theorem Ky_inj {g : Nat → Nat} {t t' : Nat} (h1 : t < 4096) (h2 : t' < 4096) (h : Ky g t = Ky g t') : t = t' := by
  unfold Ky at h
  omega
theorem sbs_lt {t a : Nat} (h : sbs t a) (ha : a < 4096) : t < 4096 := by
  have : t = t &&& a := by
    apply Nat.eq_of_testBit_eq
    intro i
    rw [Nat.testBit_and]
    cases q : t.testBit i with
    | false => rfl
    | true => rw [h i q]; rfl
  rw [this]
  exact Nat.lt_of_le_of_lt Nat.and_le_right ha
theorem sbs_le {t a : Nat} (h : sbs t a) : t ≤ a := by
  have : t = t &&& a := by
    apply Nat.eq_of_testBit_eq
    intro i
    rw [Nat.testBit_and]
    cases q : t.testBit i with
    | false => rfl
    | true => rw [h i q]; rfl
  rw [this]
  exact Nat.and_le_right
theorem bit_lt {t i : Nat} (ht : t < 4096) (h : t.testBit i = true) : i < 12 := by
  apply Classical.byContradiction
  intro q
  have h2 : 2 ^ 12 ≤ 2 ^ i := Nat.pow_le_pow_right (by decide : 0 < 2) (by omega)
  rw [Nat.testBit_lt_two_pow (by omega)] at h
  cases h
/-- a set that is enough -/
def sff (c m : Nat → Nat) (T0 T1 F0 F1 t : Nat) : Prop := T0 ≤ F0 + smt c t ∧ T1 ≤ F1 + smt m t
/-- the answer: none is enough, or the least of those that are -/
def bst (g c m : Nat → Nat) (T0 T1 F0 F1 a : Nat) (bo : Option Nat) : Prop := match bo with
  | none => ∀ t, sbs t a → ¬ sff c m T0 T1 F0 F1 t
  | some t => sbs t a ∧ sff c m T0 T1 F0 F1 t ∧ ∀ t', sbs t' a → sff c m T0 T1 F0 F1 t' → Ky g t ≤ Ky g t'
theorem bst_un {g c m : Nat → Nat} {T0 T1 F0 F1 a : Nat} {bo bo' : Option Nat} (ha : a < 4096) (h : bst g c m T0 T1 F0 F1 a bo) (h' : bst g c m T0 T1 F0 F1 a bo') : bo = bo' := by
  cases bo with
  | none =>
    cases bo' with
    | none => rfl
    | some t' => exact absurd h'.2.1 (h t' h'.1)
  | some t =>
    cases bo' with
    | none => exact absurd h.2.1 (h' t h.1)
    | some t' =>
      have a1 := h.2.2 t' h'.1 h'.2.1
      have a2 := h'.2.2 t h.1 h.2.1
      rw [Ky_inj (sbs_lt h.1 ha) (sbs_lt h'.1 ha) (Nat.le_antisymm a1 a2)]
def boI (bo : Option Nat) : Int32 := match bo with
  | none => -1
  | some t => nI t
theorem li_andn {a b : Nat} (ha : a < 4096) (hb : b < 4096) : (nI a &&& (nI b ^^^ (-1 : Int32)) = 0) = sbs a b := by
  have e : nI a &&& (nI b ^^^ (-1 : Int32)) = nI (bs (fun j => a.testBit j && !b.testBit j) 12) := by
    apply Int32.toBitVec_inj.mp
    show BitVec.ofNat 32 a &&& (BitVec.ofNat 32 b ^^^ BitVec.allOnes 32) = BitVec.ofNat 32 (bs (fun j => a.testBit j && !b.testBit j) 12)
    apply BitVec.eq_of_getLsbD_eq
    intro i hi
    rw [BitVec.getLsbD_and, BitVec.getLsbD_xor, BitVec.getLsbD_ofNat, BitVec.getLsbD_ofNat, BitVec.getLsbD_ofNat, bs_bit, BitVec.getLsbD_allOnes]
    simp only [hi, decide_true, Bool.true_and, Bool.xor_true]
    by_cases h12 : i < 12
    · simp [h12]
    · have : a.testBit i = false := by
        cases q : a.testBit i with
        | false => rfl
        | true => exact absurd (bit_lt ha q) h12
      simp [this, h12]
  have hl := bs_lt (fun j => a.testBit j && !b.testBit j) 12
  rw [e, li_0, li_eq (by omega) (by omega)]
  refine propext ⟨fun h i hi => ?_, fun h => ?_⟩
  · have h12 := bit_lt ha hi
    have q := bs_bit (fun j => a.testBit j && !b.testBit j) 12 i
    rw [h] at q
    simp [h12, hi] at q
    exact q
  · refine bs_ext (k := 12) hl (by decide) (fun j hj => ?_)
    rw [bs_bit]
    cases q : a.testBit j with
    | false => simp
    | true => simp [h j q]
theorem nI_set {t : Nat} (h : t < 4096) : nI t = sets (fun j => t.testBit j) := by rw [sets_bs, bs_of h]
theorem has_n {t i : Nat} (h : t < 4096) (hi : i < 12) (m : ab_Mm) : dd_X12_has (nI t) (nI i) m = some (if t.testBit i then 1 else 0, m) := by
  rw [nI_set h, has_sets _ hi]
section EV
variable {I I' I0 I1 I2 I3 I4 : Nat → Nat → Int32} {J J' J1 J2 J3 J4 : Nat → Nat → Int64} {x : Nat} {NH NY NE NR s d u tp u' tp' : Nat} {f g f' : Nat → Int64} {H S H' : Nat → Nat → Int64} {b : Nat → Bool}
/-- the spot instances of a host -/
def spB (f : Nat → Int64) (h i : Nat) : Bool := rn f i && decide (ho f i = h) && !decide (mbd f i = -1)
def spA (f : Nat → Int64) (h : Nat) : Nat := bs (spB f h) 12
def bN (f : Nat → Int64) (i : Nat) : Nat := (mbd f i).toNatClampNeg
def tyN (I : Nat → Nat → Int32) (f : Nat → Int64) (w i : Nat) : Nat := tN I (ty f i) w
def frN (I : Nat → Nat → Int32) (f : Nat → Int64) (h w : Nat) : Nat := hN I h w - loN I f h w
theorem spA_lt (h : Nat) : spA f h < 4096 := bs_lt _ _
theorem spA_bit (h : Nat) {i : Nat} (hb : (spA f h).testBit i = true) : i < 12 ∧ spB f h i = true := by
  unfold spA at hb
  rw [bs_bit] at hb
  simpa using hb
theorem spB_is {h i : Nat} (hs : spB f h i = true) : rn f i = true ∧ ho f i = h ∧ mbd f i ≠ -1 := by
  unfold spB at hs
  simpa [and_assoc] using hs
theorem bN_is (hw : wff I NH NY NE f) {h i : Nat} (hi : i < 12) (hs : spB f h i = true) : mbd f i = nI (bN f i) ∧ 1 ≤ bN f i ∧ bN f i ≤ 9999 := by
  have q := spB_is hs
  rcases hw.2.2.2.1 i hi q.1 with w | w
  · exact absurd w q.2.2
  · exact isr_n w (by omega)
theorem frN_is (hg : mrg I NH NY NE NR) (hw : wff I NH NY NE f) {h w : Nat} (hh : h < NH) (hw2 : w < 2) : fre I f h w = nI (frN I f h w) ∧ frN I f h w ≤ 256 := by
  have q := hw.2.2.2.2.2.2 h hh w hw2
  rw [fit_iff hg hw.2.2.1 hh hw2] at q
  have l := loN_is hg hw.2.2.1 h hw2
  have n := hN_is hg hh hw2
  unfold fre frN
  rw [l.1, n.1, pk_sub q]
  exact ⟨rfl, by omega⟩
/-- the model's sums for a set -/
theorem m_bids (hc : mc I NH NY NE NR) (hg : mrg I NH NY NE NR) (hw : wff I NH NY NE f) {h y t : Nat} (hh : h < NH) (hy : y < NY) (ht : sbs t (spA f h)) :
    dd_X12_bidsWithout 200 (nI t) (nI h) (nI y) (S0, I, jr J f, x) = some (if (tN I y 0 ≤ frN I f h 0 + smt (tyN I f 0) t ∧ tN I y 1 ≤ frN I f h 1 + smt (tyN I f 1) t) then nI (smt (bN f) t) else -1, (S0, I, jr J f, x)) := by
  have h8 := hc.2.1
  have h6 := hc.2.2.1
  have ht4 : t < 4096 := sbs_lt ht (spA_lt h)
  have F0 := frN_is hg hw hh (show 0 < 2 by omega)
  have F1 := frN_is hg hw hh (show 1 < 2 by omega)
  have T0 := tN_is hg hy (show 0 < 2 by omega)
  have T1 := tN_is hg hy (show 1 < 2 by omega)
  have fr0 : dd_X12_freeOf 200 (nI h) 0 (S0, I, jr J f, x) = some (nI (frN I f h 0), (S0, I, jr J f, x)) := by
    have q := @m_free0 I (jr J f) x NH NY NE h hw.2.2.1 h8 h6 (by omega)
    rw [jr_at, F0.1] at q
    exact q
  have fr1 : dd_X12_freeOf 200 (nI h) 1 (S0, I, jr J f, x) = some (nI (frN I f h 1), (S0, I, jr J f, x)) := by
    have q := @m_free1 I (jr J f) x NH NY NE h hw.2.2.1 h8 h6 (by omega)
    rw [jr_at, F1.1] at q
    exact q
  have s0 : smt (tyN I f 0) t ≤ 12 * 256 := smt_B (fun i hi hb => (tN_is hg (ty_lt hw.2.2.1 hi (spB_is (spA_bit h (ht i hb)).2).1) (show 0 < 2 by omega)).2.2)
  have s1 : smt (tyN I f 1) t ≤ 12 * 256 := smt_B (fun i hi hb => (tN_is hg (ty_lt hw.2.2.1 hi (spB_is (spA_bit h (ht i hb)).2).1) (show 1 < 2 by omega)).2.2)
  unfold dd_X12_bidsWithout
  rw [m_rc, ob_s, fr0, ob_s, m_rc, ob_s, fr1, ob_s]
  have psn : ∀ (g : Nat → Nat) (k : Nat), sn (fun i => if t.testBit i then g i else 0) (k + 1) = sn (fun i => if t.testBit i then g i else 0) k + (if t.testBit k then g k else 0) := fun g k => rfl
  have loop : ∀ (k n j : Nat), j + k = 12 → k < n → bb_X12_bidsWithout_22 n 200 (nI t) (nI y) (nI (frN I f h 0 + sn (fun i => if t.testBit i then tyN I f 0 i else 0) j)) (nI (frN I f h 1 + sn (fun i => if t.testBit i then tyN I f 1 i else 0) j)) (nI (sn (fun i => if t.testBit i then bN f i else 0) j)) (nI j) (S0, I, jr J f, x) = some (if (tN I y 0 ≤ frN I f h 0 + smt (tyN I f 0) t ∧ tN I y 1 ≤ frN I f h 1 + smt (tyN I f 1) t) then nI (smt (bN f) t) else -1, (S0, I, jr J f, x)) := by
    intro k
    induction k with
    | zero =>
      intro n j h1 h2
      obtain ⟨n, rfl⟩ : ∃ q, n = q + 1 := ⟨n - 1, by omega⟩
      have ej : j = 12 := by omega
      subst ej
      have t0 : ab_ld (S0, I, jr J f, x) 1 204 (3 * nI y) = some (nI (tN I y 0)) := by rw [m_t0 (by omega), T0.1]
      have t1 : ab_ld (S0, I, jr J f, x) 1 204 (3 * nI y + 1) = some (nI (tN I y 1)) := by rw [m_t1 (by omega), T1.1]
      rw [bb_X12_bidsWithout_22, if_pos li_12e, m_R4, ob_s, t0, ob_s]
      show (if nI (frN I f h 0 + smt (tyN I f 0) t) < nI (tN I y 0) then _ else _) = _
      by_cases q0 : tN I y 0 ≤ frN I f h 0 + smt (tyN I f 0) t
      · rw [if_neg (by rw [li_lt (by omega) (by omega)]; omega), ob_s, t1, ob_s]
        show (if nI (frN I f h 1 + smt (tyN I f 1) t) < nI (tN I y 1) then _ else _) = _
        by_cases q1 : tN I y 1 ≤ frN I f h 1 + smt (tyN I f 1) t
        · rw [if_neg (by rw [li_lt (by omega) (by omega)]; omega), if_pos ⟨q0, q1⟩]
          rfl
        · rw [if_pos (by rw [li_lt (by omega) (by omega)]; omega), if_neg (fun w => q1 w.2)]
          rfl
      · rw [if_pos (by rw [li_lt (by omega) (by omega)]; omega), if_neg (fun w => q0 w.1)]
        rfl
    | succ k ih =>
      intro n j h1 h2
      obtain ⟨n, rfl⟩ : ∃ q, n = q + 1 := ⟨n - 1, by omega⟩
      have hj : j < 12 := by omega
      have st := ih n (j + 1) (by omega) (by omega)
      rw [psn, psn, psn] at st
      rw [bb_X12_bidsWithout_22, if_neg (li_12 hj), has_n ht4 hj, ob_s]
      cases hb : t.testBit j with
      | false =>
        rw [hb] at st
        simp only [Bool.false_eq_true, if_false, Nat.add_zero, if_true] at st ⊢
        rw [bb_X12_bidsWithout_90, nI_1]
        exact st
      | true =>
        have sb := (spA_bit h (ht j hb)).2
        have hrn := (spB_is sb).1
        have wi := hw.2.2.1 j hj hrn
        have hty : ty f j < NY := wi.2.1.2
        have ety : (vi f j 1).toInt32 = nI (ty f j) := isn_32 wi.2.1
        have eb : (vi f j 3).toInt32 = nI (bN f j) := (bN_is hw hj sb).1
        have t0 : ab_ld (S0, I, jr J f, x) 1 204 (3 * nI (ty f j)) = some (nI (tyN I f 0 j)) := by rw [m_t0 (by omega), (tN_is hg hty (show 0 < 2 by omega)).1]; rfl
        have t1 : ab_ld (S0, I, jr J f, x) 1 204 (3 * nI (ty f j) + 1) = some (nI (tyN I f 1 j)) := by rw [m_t1 (by omega), (tN_is hg hty (show 1 < 2 by omega)).1]; rfl
        rw [hb] at st
        simp only [if_true] at st ⊢
        rw [if_neg n10, m_rc, ob_s, m_its3J hj, ob_s, m_R4, ob_s, m_rc, ob_s, m_its1J hj, ob_s, ety, t0, ob_s, m_R4, ob_s, m_rc, ob_s, m_its1J hj, ob_s, ety, t1, ob_s, eb, bb_X12_bidsWithout_90, nI_1, li_add, li_add, li_add, Nat.add_assoc, Nat.add_assoc]
        exact st
  exact loop 12 ab_fu 0 (by omega) (ab_fu_big (by omega))
end EV
