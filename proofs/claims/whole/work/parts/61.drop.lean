/-! ===== a request goes: the model ===== -/
def dropF (f : Nat → Int64) (r : Nat) : Nat → Int64 := fun k => if k = 1 then (nI (nq f - 1)).toInt64 else if 86 + 3 * r ≤ k ∧ k < 86 + 3 * (nq f - 1) then f (k + 3) else f k
section DR
variable {I : Nat → Nat → Int32} {J : Nat → Nat → Int64} {x : Nat} {f g : Nat → Int64}
theorem nq_dec (hq : isn (f 1) 11) {r : Nat} (hr : r < nq f) : f 1 - 1 = (nI (nq f - 1)).toInt64 := by
  have h2 : nq f < 11 := hq.2
  have e : f 1 = (nI (nq f)).toInt64 := hq.1
  rw [e, nI_l (by omega), nI_l (by omega)]
  exact lN_sub (b := 1) (by omega)
def dpP (f : Nat → Int64) (r j : Nat) (g : Nat → Int64) : Prop := 86 + 3 * r ≤ j ∧ ∀ i, g i = if i = 1 then (nI (nq f - 1)).toInt64 else if 86 + 3 * r ≤ i ∧ i < j then f (i + 3) else f i
theorem dp_1 {r j : Nat} (h : dpP f r j g) : g 1 = (nI (nq f - 1)).toInt64 := by rw [h.2 1, if_pos rfl]
theorem m_drop (hq : isn (f 1) 11) {r : Nat} (hr : r < nq f) : dd_X12_dropsRequest 200 (nI r) (S0, I, jr J f, x) = some ((), (S0, I, jr J (dropF f r), x)) := by
  have h2 : nq f < 11 := hq.2
  have e86 : (86 : Int32) + 3 * nI r = nI (86 + 3 * r) := by rw [li_n 86, li_n 3, li_mul, li_add]
  unfold dd_X12_dropsRequest
  rw [m_R1, ob_s, m_n1J, ob_s, nq_dec hq hr, show (1 : Int32) = nI 1 from rfl, m_snowJ _ (by omega), ob_s, e86]
  have hcmp : ∀ (k : Nat) (g : Nat → Int64), k ≤ 200 → g 1 = (nI (nq f - 1)).toInt64 → (0 ≤ lg_cmp (nI k).toInt64 ((86 : Int64) + (3 : Int64) * g 1)) = (86 + 3 * (nq f - 1) ≤ k) := by
    intro k g hk hg
    have e : (86 : Int64) + (3 : Int64) * g 1 = lN (86 + 3 * (nq f - 1)) := by
      rw [hg, nI_l (by omega), show (3 : Int64) = lN 3 from rfl, lN_mul, show (86 : Int64) = lN 86 from rfl, lN_add]
    rw [lc_ge, e, nI_l (by omega)]
    exact propext (lN_le (by omega) (by omega))
  have hst : ∀ (k : Nat) (g : Nat → Int64), k < 86 + 3 * (nq f - 1) → dpP f r k g → dpP f r (k + 1) (fu g k (g (k + 3))) := by
    intro k g hk hP
    refine ⟨by have := hP.1; omega, fun i => ?_⟩
    have h86 := hP.1
    have h3 := hP.2 (k + 3)
    rw [if_neg (by omega), if_neg (by omega)] at h3
    have hi := hP.2 i
    by_cases e : i = k
    · rw [e, fu_e, h3, if_neg (by omega), if_pos (by omega)]
    · rw [fu_n e, hi]
      by_cases e1 : i = 1
      · rw [if_pos e1, if_pos e1]
      · rw [if_neg e1, if_neg e1]
        by_cases e2 : 86 + 3 * r ≤ i ∧ i < k
        · rw [if_pos e2, if_pos (by omega)]
        · rw [if_neg e2, if_neg (by omega)]
  have hP0 : dpP f r (86 + 3 * r) (fu f 1 (nI (nq f - 1)).toInt64) := by
    refine ⟨Nat.le_refl _, fun i => ?_⟩
    by_cases e1 : i = 1
    · rw [if_pos e1, e1, fu_e]
    · rw [if_neg e1, fu_n e1, if_neg (by omega)]
  have key := lp_upI (dpP f r) (fun n k g => bb_X12_dropsRequest_17 n 200 k (S0, I, jr J g, x)) (86 + 3 * (nq f - 1)) (fun k g => fu g k (g (k + 3))) (fun g => some ((), (S0, I, jr J g, x))) (fun n k g hk hP => by
    show bb_X12_dropsRequest_17 (n + 1) 200 (nI k) (S0, I, jr J g, x) = _
    have e3 : nI k + (3 : Int32) = nI (k + 3) := li_add k 3
    have hc := hcmp k g (by omega) (dp_1 hP)
    rw [bb_X12_dropsRequest_17, m_R1, ob_s, m_n1J, ob_s, if_neg (by rw [hc]; omega), ob_s, ob_s, e3, m_nowJ (by omega), ob_s, m_snowJ _ (by omega), ob_s]) hst (fun n g hP => by
    show bb_X12_dropsRequest_17 (n + 1) 200 (nI (86 + 3 * (nq f - 1))) (S0, I, jr J g, x) = _
    have hc := hcmp (86 + 3 * (nq f - 1)) g (by omega) (dp_1 hP)
    rw [bb_X12_dropsRequest_17, m_R1, ob_s, m_n1J, ob_s, if_pos (by rw [hc]; omega)]) (3 * (nq f - 1 - r)) ab_fu (86 + 3 * r) _ (by omega) (ab_fu_big (by omega)) hP0
  refine key.trans ?_
  have hfin := itr_inv (f := fun k g => fu g k (g (k + 3))) (dpP f r) (3 * (nq f - 1 - r)) (86 + 3 * r) _ hP0 (fun i g h1 h2 hP => hst i g (by omega) hP)
  have e : itr (fun k (g : Nat → Int64) => fu g k (g (k + 3))) (86 + 3 * r) (3 * (nq f - 1 - r)) (fu f 1 (nI (nq f - 1)).toInt64) = dropF f r := by
    funext i
    rw [hfin.2 i, show 86 + 3 * r + 3 * (nq f - 1 - r) = 86 + 3 * (nq f - 1) by omega]
    rfl
  rw [e]
end DR
