/-! ===== the requests of an hour: the model ===== -/
section GT
variable {I : Nat → Nat → Int32} {J : Nat → Nat → Int64} {x : Nat} {NH NY NE NR s : Nat} {f f' : Nat → Int64}
theorem m_bestJ {y : Nat} (hc : mc I NH NY NE NR) (hw : wfs NH NY NE f) (h6 : y < 6) : dd_X12_bestFor 200 (nI y) (S0, I, jr J f, x) = some ((mbest I f y NH).1, (S0, I, jr J f, x)) := @m_best I (jr J f) x NH NY NE NR y hc hw h6
theorem m_bidJ {r : Nat} (h : r < 10) : dd_X12_bidAt 200 (nI r) (S0, I, jr J f, x) = some (bq f r, (S0, I, jr J f, x)) := m_bidAt h
theorem m_onesJ : dd_X12_runningOnes 200 (S0, I, jr J f, x) = some (sets (rn f), (S0, I, jr J f, x)) := m_ones
theorem m_reqJ (hq : isn (f 1) 11) (p : Int32) : dd_X12_requestAt 200 p (S0, I, jr J f, x) = some (match rqA f p with | some r => nI r | none => -1, (S0, I, jr J f, x)) := @m_reqAt I (jr J f) x hq p
theorem m_vqJ {r w : Nat} (h : r < 10) (hw : w < 3) : ab_ldJ (S0, I, jr J f, x) 201 (nI (86 + 3 * r + w)) = some (vq f r w) := m_nowJ (by omega)
theorem m_beginsReq (hg : mrg I NH NY NE NR) (hc : mc I NH NY NE NR) (hw : wff I NH NY NE f) {r : Nat} (hr : r < nq f) : dd_X12_beginsRequest 200 (nI r) (S0, I, jr J f, x) = some (if can I NH f r then 1 else 0, (S0, I, jr J (if can I NH f r then nxF I NH f r else f), x)) := by
  have h10 : nq f < 11 := hw.2.1.2
  have h6 := hc.2.2.1
  have q := hw.2.2.2.2.2.1 r hr
  have a0 : (86 : Int32) + 3 * nI r = nI (86 + 3 * r + 0) := by rw [li_n 86, li_n 3, li_mul, li_add]; rfl
  have a1 : nI (86 + 3 * r + 0) + (1 : Int32) = nI (86 + 3 * r + 1) := li_add _ 1
  have ey : (vq f r 1).toInt32 = nI (rqy f r) := isn_32 q.2.1
  have ee : (vq f r 0).toInt32 = nI (rqe f r) := isn_32 q.1
  have hy : rqy f r < NY := q.2.1.2
  have e2 : (2 : Int32) + nI (rqy f r) = nI (2 + rqy f r) := li_add 2 _
  have hcmp : (lg_cmp (bq f r).toInt64 (f (2 + rqy f r)) < 0) = (bq f r < (f (2 + rqy f r)).toInt32) := by
    rw [lc_lt, hw.2.2.2.2.1 _ hy, j_lt, Int32.toInt32_toInt64]
  unfold dd_X12_beginsRequest
  rw [m_R1, ob_s, a0, m_vqJ (by omega) (by omega), ob_s, ob_s, a1, m_vqJ (by omega) (by omega), ob_s, m_rc, ob_s, m_bidJ (by omega), ob_s, m_rc, ob_s, ey, m_bestJ hc hw.2.2.1 (by omega), ob_s, m_R1, ob_s, e2, m_nowJ (by omega), ob_s]
  by_cases h1 : bq f r < (f (2 + rqy f r)).toInt32
  · have hcan : can I NH f r = false := by simp [can, h1]
    rw [if_pos (hcmp ▸ h1), hcan]; rfl
  · rw [if_neg (hcmp ▸ h1), m_rc, ob_s, m_onesJ, ob_s, bits_sets, ob_s]
    have hle := cn_le (rn f) 12
    have e12 : (nI (cn (rn f) 12) = (12 : Int32)) = (cn (rn f) 12 = 12) := li_eq (b := 12) (by omega) (by omega)
    by_cases h2 : cn (rn f) 12 = 12
    · have hcan : can I NH f r = false := by simp [can, h2]
      rw [if_pos (e12 ▸ h2), hcan]; rfl
    · rw [if_neg (e12 ▸ h2)]
      by_cases h3 : (mbest I f (rqy f r) NH).1 = -1
      · have hcan : can I NH f r = false := by simp [can, h3]
        rw [if_pos h3, hcan]; rfl
      · have hcan : can I NH f r = true := by
          have : cn (rn f) 12 < 12 := by omega
          simp [can, h1, this, h3]
        obtain ⟨i, h, hi, el, hh, e1, e2', e3⟩ := can_ex hw hc.2.1 hcan
        rw [if_neg h3, m_rc, ob_s, ee, m_begins el, ob_s, m_rc, ob_s, hcan]
        have en := @fst_rq f i hi (nI (rqe f r)).toInt64 (nI (rqy f r)).toInt64 (mbest I f (rqy f r) NH).1.toInt64 (bq f r).toInt64
        have hq' : isn (fst f i (nI (rqe f r)).toInt64 (nI (rqy f r)).toInt64 (mbest I f (rqy f r) NH).1.toInt64 (bq f r).toInt64 1) 11 := by
          rw [fst_oi 1 (by omega)]; exact hw.2.1
        rw [m_drop hq' (by rw [en.1]; exact hr), ob_s, e3, e1]
        rfl
theorem m_grant (hg : mrg I NH NY NE NR) (hc : mc I NH NY NE NR) : ∀ (k p n : Nat) (f : Nat → Int64), wff I NH NY NE f → nq f ≤ p + k → p ≤ 20 → k < n → bb_X12_hour_288 (bb_X12_hour_272 n) 200 (nI p) (S0, I, jr J f, x) = some ((), (S0, I, jr J (grF I NH k p f), x)) := by
  intro k
  induction k with
  | zero =>
    intro p n f hw hq hp hn
    obtain ⟨n, rfl⟩ : ∃ q, n = q + 1 := ⟨n - 1, by omega⟩
    have h10 : nq f < 11 := hw.2.1.2
    have e : rqA f (nI p) = none := rqA_no hw.2.1 (by rw [inN_n (by omega)]; simp; omega)
    rw [bb_X12_hour_288, m_rc, ob_s, m_reqJ hw.2.1, ob_s, e, bb_X12_hour_272, if_pos rfl]
    rfl
  | succ k ih =>
    intro p n f hw hq hp hn
    obtain ⟨n, rfl⟩ : ∃ q, n = q + 1 := ⟨n - 1, by omega⟩
    have h10 : nq f < 11 := hw.2.1.2
    rw [bb_X12_hour_288, m_rc, ob_s, m_reqJ hw.2.1, ob_s]
    unfold grF
    cases e : rqA f (nI p) with
    | none => rw [bb_X12_hour_272, if_pos rfl]
    | some r =>
      have hr : r < nq f := by have := fd_some e; omega
      have hpq : p < nq f := by
        by_cases h : p < nq f
        · exact h
        · have := rqA_no hw.2.1 (p := nI p) (by rw [inN_n (by omega)]; simp; omega)
          rw [this] at e; cases e
      show bb_X12_hour_272 (n + 1) 200 (nI p) (nI r) (S0, I, jr J f, x) = _
      rw [bb_X12_hour_272, if_neg (nI_ne (by omega)), m_rc, ob_s, m_beginsReq hg hc hw hr, ob_s]
      cases hcan : can I NH f r with
      | true =>
        simp only [if_true]
        rw [if_neg n10]
        have w := nxF_wff hg hc hw hr hcan
        rw [if_pos hcan]
        exact ih p n _ w.1 (by rw [w.2]; omega) hp (by omega)
      | false =>
        simp only [Bool.false_eq_true, if_false, if_true]
        rw [nI_1, if_neg (by rw [hcan]; decide)]
        exact ih (p + 1) n f hw (by omega) (by omega) (by omega)
end GT
