/-! ===== the cheapest eviction: the model ===== -/
section EW
variable {I I' I0 I1 I2 I3 I4 : Nat → Nat → Int32} {J J' J1 J2 J3 J4 : Nat → Nat → Int64} {x : Nat} {NH NY NE NR s d u tp u' tp' : Nat} {f g f' : Nat → Int64} {H S H' : Nat → Nat → Int64} {b : Nat → Bool}
/-- the least of the sets below k that are enough -/
def bsk (I : Nat → Nat → Int32) (f : Nat → Int64) (h y k : Nat) (bo : Option Nat) : Prop := match bo with
  | none => ∀ t, t < k → sbs t (spA f h) → ¬ sff (tyN I f 0) (tyN I f 1) (tN I y 0) (tN I y 1) (frN I f h 0) (frN I f h 1) t
  | some t => t < k ∧ sbs t (spA f h) ∧ sff (tyN I f 0) (tyN I f 1) (tN I y 0) (tN I y 1) (frN I f h 0) (frN I f h 1) t ∧ ∀ t', t' < k → sbs t' (spA f h) → sff (tyN I f 0) (tyN I f 1) (tN I y 0) (tN I y 1) (frN I f h 0) (frN I f h 1) t' → Ky (bN f) t ≤ Ky (bN f) t'
def boB (f : Nat → Int64) (bo : Option Nat) : Int32 := match bo with
  | none => 0
  | some t => nI (smt (bN f) t)
theorem smt_bd (hw : wff I NH NY NE f) {h t : Nat} (ht : sbs t (spA f h)) : smt (bN f) t ≤ 12 * 9999 := smt_B (fun i hi hb => (bN_is hw hi (spA_bit h (ht i hb)).2).2.2)
theorem bsk_keep {h y k : Nat} {bo : Option Nat} (hb : bsk I f h y k bo) (hn : sbs k (spA f h) → sff (tyN I f 0) (tyN I f 1) (tN I y 0) (tN I y 1) (frN I f h 0) (frN I f h 1) k → ∃ t, bo = some t ∧ Ky (bN f) t ≤ Ky (bN f) k) : bsk I f h y (k + 1) bo := by
  cases bo with
  | none =>
    intro t ht hs hf
    by_cases e : t = k
    · subst e
      obtain ⟨_, q, _⟩ := hn hs hf
      cases q
    · exact hb t (by omega) hs hf
  | some t =>
    obtain ⟨b1, b2, b3, b4⟩ := hb
    refine ⟨by omega, b2, b3, fun t' ht' hs hf => ?_⟩
    by_cases e : t' = k
    · subst e
      obtain ⟨t2, q, q2⟩ := hn hs hf
      cases q
      exact q2
    · exact b4 t' (by omega) hs hf
theorem bsk_new {h y k : Nat} {bo : Option Nat} (hb : bsk I f h y k bo) (h1 : sbs k (spA f h)) (h2 : sff (tyN I f 0) (tyN I f 1) (tN I y 0) (tN I y 1) (frN I f h 0) (frN I f h 1) k) (hk : ∀ t, bo = some t → Ky (bN f) k ≤ Ky (bN f) t) : bsk I f h y (k + 1) (some k) := by
  refine ⟨by omega, h1, h2, fun t' ht' hs hf => ?_⟩
  by_cases e : t' = k
  · rw [e]; exact Nat.le_refl _
  · cases bo with
    | none => exact absurd hf (hb t' (by omega) hs)
    | some t => exact Nat.le_trans (hk t rfl) (hb.2.2.2 t' (by omega) hs hf)
theorem m_evSet (hw : wfs NH NY NE f) (h8 : NH ≤ 8) {h : Nat} (hh : h < 8) (y : Int32) : ∃ n', bb_X12_cheapestEviction_23 ab_fu 200 (nI h) y 0 0 (S0, I, jr J f, x) = bb_X12_cheapestEviction_23 (n' + 1) 200 (nI h) y (nI (spA f h)) (nI 12) (S0, I, jr J f, x) := by
  have loop : ∀ (k n j : Nat), j + k = 12 → k < n → ∃ n', bb_X12_cheapestEviction_23 n 200 (nI h) y (nI (bs (spB f h) j)) (nI j) (S0, I, jr J f, x) = bb_X12_cheapestEviction_23 (n' + 1) 200 (nI h) y (nI (bs (spB f h) 12)) (nI 12) (S0, I, jr J f, x) := by
    intro k
    induction k with
    | zero =>
      intro n j h1 h2
      obtain ⟨n, rfl⟩ : ∃ q, n = q + 1 := ⟨n - 1, by omega⟩
      have ej : j = 12 := by omega
      subst ej
      exact ⟨n, rfl⟩
    | succ k ih =>
      intro n j h1 h2
      obtain ⟨n, rfl⟩ : ∃ q, n = q + 1 := ⟨n - 1, by omega⟩
      have hj : j < 12 := by omega
      obtain ⟨n', st⟩ := ih n (j + 1) (by omega) (by omega)
      refine ⟨n', ?_⟩
      rw [← st]
      have io := @m_isOn I (jr J f) x NH NY NE j h hw h8 hj hh
      rw [jr_at] at io
      have hl := bs_lt (spB f h) j
      have add : ∀ v : Nat, (v = if spB f h j then 2 ^ j else 0) → nI (bs (spB f h) j) ||| nI v = nI (bs (spB f h) (j + 1)) := by
        intro v hv
        rw [li_or, bs]
        refine congrArg nI ?_
        rw [hv]
        cases spB f h j with
        | false => simp
        | true =>
          simp only [if_true]
          have e := Nat.two_pow_add_eq_or_of_lt hl 1
          rw [Nat.mul_one] at e
          rw [Nat.or_comm, ← e, Nat.add_comm]
      rw [bb_X12_cheapestEviction_23, if_neg (li_12 hj), m_rc, ob_s, io, ob_s]
      by_cases hc : rn f j = true ∧ ho f j = h
      · rw [if_pos hc, if_neg n10, m_rc, ob_s, m_its3J hj, ob_s]
        by_cases hb : (vi f j 3).toInt32 = -1
        · have hs : spB f h j = false := by
            have : mbd f j = -1 := hb
            simp [spB, this]
          rw [if_pos hb, bb_X12_cheapestEviction_59, bb_X12_cheapestEviction_60, nI_1]
          have q := add 0 (by rw [hs]; rfl)
          have q' : nI (bs (spB f h) j) ||| 0 = nI (bs (spB f h) (j + 1)) := q
          rw [q']
        · have hs : spB f h j = true := by
            have : mbd f j ≠ -1 := hb
            simp [spB, hc, this]
          rw [if_neg hb, bb_X12_cheapestEviction_60, nI_1, li_sh1 j hj, add (2 ^ j) (by rw [hs]; rfl)]
      · have hs : spB f h j = false := by
          cases q : spB f h j with
          | false => rfl
          | true =>
            have w := spB_is q
            exact absurd ⟨w.1, w.2.1⟩ hc
        rw [if_neg hc, if_pos rfl, bb_X12_cheapestEviction_59, bb_X12_cheapestEviction_60, nI_1]
        have q := add 0 (by rw [hs]; rfl)
        have q' : nI (bs (spB f h) j) ||| 0 = nI (bs (spB f h) (j + 1)) := q
        rw [q']
  exact loop 12 ab_fu 0 (by omega) (ab_fu_big (by omega))
theorem m_cheL (hc : mc I NH NY NE NR) (hg : mrg I NH NY NE NR) (hw : wff I NH NY NE f) {h y : Nat} (hh : h < NH) (hy : y < NY) : ∀ (q n k : Nat) (bo : Option Nat), k + q = spA f h + 1 → q < n → bsk I f h y k bo →
    ∃ bo', bb_X12_cheapestEviction_77 n 200 (nI h) (nI y) (nI (spA f h)) (boI bo) (boB f bo) (nI k) (S0, I, jr J f, x) = some (boI bo', (S0, I, jr J f, x)) ∧ bsk I f h y (spA f h + 1) bo' := by
  have hA := spA_lt (f := f) h
  intro q
  induction q with
  | zero =>
    intro n k bo h1 h2 hb
    obtain ⟨n, rfl⟩ : ∃ z, n = z + 1 := ⟨n - 1, by omega⟩
    have ek : k = spA f h + 1 := by omega
    subst ek
    refine ⟨bo, ?_, hb⟩
    rw [bb_X12_cheapestEviction_77, if_pos (by rw [li_lt (by omega) (by omega)]; omega)]
  | succ q ih =>
    intro n k bo h1 h2 hb
    obtain ⟨n, rfl⟩ : ∃ z, n = z + 1 := ⟨n - 1, by omega⟩
    have skip : bsk I f h y (k + 1) bo → ∃ bo', bb_X12_cheapestEviction_153 (bb_X12_cheapestEviction_77 n) 200 (nI h) (nI y) (nI (spA f h)) (boI bo) (boB f bo) (nI k) (S0, I, jr J f, x) = some (boI bo', (S0, I, jr J f, x)) ∧ bsk I f h y (spA f h + 1) bo' := by
      intro hb2
      rw [bb_X12_cheapestEviction_153, nI_1]
      exact ih n (k + 1) bo (by omega) (by omega) hb2
    have take : bsk I f h y (k + 1) (some k) → ∃ bo', bb_X12_cheapestEviction_145 (bb_X12_cheapestEviction_77 n) 200 (nI h) (nI y) (nI (spA f h)) (nI k) (nI (smt (bN f) k)) (S0, I, jr J f, x) = some (boI bo', (S0, I, jr J f, x)) ∧ bsk I f h y (spA f h + 1) bo' := by
      intro hb2
      rw [bb_X12_cheapestEviction_145, bb_X12_cheapestEviction_153, nI_1]
      exact ih n (k + 1) (some k) (by omega) (by omega) hb2
    rw [bb_X12_cheapestEviction_77, if_neg (by rw [li_lt (by omega) (by omega)]; omega)]
    have hla := li_andn (show k < 4096 by omega) hA
    by_cases hs : sbs k (spA f h)
    · rw [if_pos (by rw [hla]; exact hs), m_rc, ob_s, m_bids hc hg hw hh hy hs, ob_s]
      by_cases hf : sff (tyN I f 0) (tyN I f 1) (tN I y 0) (tN I y 1) (frN I f h 0) (frN I f h 1) k
      · have hf' := hf
        unfold sff at hf'
        have bk := smt_bd hw hs
        rw [if_pos hf', bb_X12_cheapestEviction_104, if_neg (nI_ne (by omega))]
        cases bo with
        | none =>
          rw [if_pos (show boI none = -1 from rfl)]
          exact take (bsk_new hb hs hf (fun t ht => by cases ht))
        | some t =>
          have bt := smt_bd hw hb.2.1
          have ht4 := hb.1
          rw [if_neg (show ¬ boI (some t) = -1 from nI_ne (by omega))]
          show ∃ bo', (if nI (smt (bN f) k) < nI (smt (bN f) t) then _ else if nI (smt (bN f) k) = nI (smt (bN f) t) then _ else _) = _ ∧ _
          have c1 := cnt_le t
          have c2 := cnt_le k
          by_cases q1 : smt (bN f) k < smt (bN f) t
          · rw [if_pos (by rw [li_lt (by omega) (by omega)]; exact q1)]
            refine take (bsk_new hb hs hf (fun t' ht' => ?_))
            cases ht'
            unfold Ky
            omega
          · rw [if_neg (by rw [li_lt (by omega) (by omega)]; exact q1)]
            by_cases q2 : smt (bN f) k = smt (bN f) t
            · rw [if_pos (by rw [q2]), bits_n (show k < 4096 by omega), ob_s]
              show ∃ bo', ((dd_X12_bits (nI t) (S0, I, jr J f, x)).bind _) = _ ∧ _
              rw [bits_n (show t < 4096 by omega), ob_s]
              show ∃ bo', (if nI (cnt t) ≤ nI (cnt k) then _ else _) = _ ∧ _
              by_cases q3 : cnt t ≤ cnt k
              · rw [if_pos (by rw [li_le (by omega) (by omega)]; exact q3)]
                refine skip (bsk_keep hb (fun _ _ => ⟨t, rfl, ?_⟩))
                unfold Ky
                rw [q2]
                omega
              · rw [if_neg (by rw [li_le (by omega) (by omega)]; exact q3)]
                refine take (bsk_new hb hs hf (fun t' ht' => ?_))
                cases ht'
                unfold Ky
                rw [q2]
                omega
            · rw [if_neg (by rw [li_eq (by omega) (by omega)]; exact q2)]
              refine skip (bsk_keep hb (fun _ _ => ⟨t, rfl, ?_⟩))
              unfold Ky
              omega
      · have hf' := hf
        unfold sff at hf'
        rw [if_neg hf', bb_X12_cheapestEviction_104, if_pos rfl]
        exact skip (bsk_keep hb (fun _ w => absurd w hf))
    · rw [if_neg (by rw [hla]; exact hs), bb_X12_cheapestEviction_104, if_pos rfl]
      exact skip (bsk_keep hb (fun w _ => absurd w hs))
theorem m_cheap (hc : mc I NH NY NE NR) (hg : mrg I NH NY NE NR) (hw : wff I NH NY NE f) {h y : Nat} (hh : h < NH) (hy : y < NY) :
    ∃ bo, bb_X12_cheapestEviction_23 ab_fu 200 (nI h) (nI y) 0 0 (S0, I, jr J f, x) = some (boI bo, (S0, I, jr J f, x)) ∧ bst (bN f) (tyN I f 0) (tyN I f 1) (tN I y 0) (tN I y 1) (frN I f h 0) (frN I f h 1) (spA f h) bo := by
  have hA := spA_lt (f := f) h
  obtain ⟨n', e1⟩ := @m_evSet I J x NH NY NE f hw.2.2.1 hc.2.1 h (by have := hc.2.1; omega) (nI y)
  obtain ⟨bo, e2, hb⟩ := @m_cheL I J x NH NY NE NR f hc hg hw h y hh hy (spA f h + 1) ab_fu 0 none (by omega) (ab_fu_big (by omega)) (fun t ht => by omega)
  refine ⟨bo, ?_, ?_⟩
  · rw [e1, bb_X12_cheapestEviction_23, if_pos li_12e]
    exact e2
  · cases bo with
    | none => exact fun t ht => hb t (by have := sbs_le ht; omega) ht
    | some t => exact ⟨hb.2.1, hb.2.2.1, fun t' ht' hf => hb.2.2.2 t' (by have := sbs_le ht'; omega) ht' hf⟩
end EW
