/-! ===== an hour: notices in the class ===== -/
section NP
variable {I : Nat → Nat → Int32} {J : Nat → Nat → Int64} {x : Nat} {NH NY NE NR s : Nat} {f g : Nat → Int64}
theorem ab_u_id {I : Nat → Nat → Int32} {r k : Nat} {v : Int32} (h : I r k = v) : ab_u I r k v = I := by
  funext a b
  unfold ab_u
  by_cases e : a = r ∧ b = k
  · rw [if_pos e, e.1, e.2, h]
  · rw [if_neg e]
theorem si_notices (ht : siT s) (h31 : 32 ≤ s) (hs : s < 181) (hc : mc I NH NY NE NR) (hl : clR I NH NY NE NR) (hw : wfs NH NY NE f) (hr : sr I NY s f) :
    ∃ I', dd_X8_setNotices s 18 (S0, I, J, x) = some ((), (S0, I', J, x)) ∧ onl s I I' ∧ sr I' NY s (noF I f) := by
  have h8 := hc.2.1
  have h6 := hc.2.2.1
  obtain ⟨I', n', e, ho, hsr⟩ := lp_ex0 (fun n k (z : Nat → Nat → Int32) => bb_X8_setNotices_2 n s 18 k (S0, z, J, x)) 12 (by omega) (fun j z => onl s I z ∧ sr z NY s (itr (noS I) 0 j f)) (fun n j z hj hP => by
    obtain ⟨p2, p3⟩ := hP
    have hw' := noF_wfs (I := I) hw j (by omega)
    have hl' := clR_onl hl p2 h31 hs
    have hc' := mc_onl hc p2 hs
    show ∃ a' : Nat → Nat → Int32, bb_X8_setNotices_2 (n + 1) s 18 (nI j) (S0, z, J, x) = bb_X8_setNotices_2 n s 18 (nI j + 1) (S0, a', J, x) ∧ _
    rw [itr_last, Nat.zero_add]
    generalize itr (noS I) 0 j f = y at p3 hw' ⊢
    rw [bb_X8_setNotices_2, if_neg (li_12 hj), fR_X8_2 ht.1, ob_s, rc_X10 ht.2.1.1, ob_s, si_get ht p3.1 rfl (li_n 2) hj (by omega), ob_s, rc_X8 ht.1, ob_s, si_runsN ht hj, ob_s, sr_ru p3 hj]
    by_cases hrf : rn y j = false
    · rw [noS_f hrf]
      exact ⟨z, by rw [hrf]; rfl, p2, p3⟩
    · have hrn : rn y j = true := by simpa using hrf
      have q := p3.2.2.2.1 j hj hrn
      have w := hw' j hj hrn
      have eb : gi z s j 2 = mbd y j := q.2.2.1
      have en : gi z s j 4 = mnt y j := q.2.2.2.2.1
      have hty : ty y j < NY := w.2.1.2
      have ety : gi z s j 1 = nI (ty y j) := q.2.1.trans (isn_32 w.2.1)
      have esp : gp z s (ty y j) = spt y j := p3.2.2.2.2.1 _ hty
      rw [hrn, eb]
      simp only [if_true]
      rw [if_neg n10]
      by_cases h1 : mbd y j = -1
      · rw [noS_g h1]
        exact ⟨z, by rw [if_pos h1, bb_X8_setNotices_84], p2, p3⟩
      · rw [if_neg h1, fR_X8_4 ht.1, ob_s, fR_X8_2 ht.1, ob_s, rc_X10 ht.2.1.1, ob_s, si_get ht p3.1 rfl (li_n 1) hj (by omega), ob_s, rc_X10 ht.2.2.2.1.1, ob_s, si_getp ht p3.1 ety rfl (by omega), ob_s, esp, noS_t hrn h1]
        by_cases h2 : mbd y j < spt y j
        · rw [if_pos h2, fR_X8_2 ht.1, ob_s, rc_X10 ht.2.1.1, ob_s, si_get ht p3.1 rfl (li_n 4) hj (by omega), ob_s, en]
          by_cases h3 : mnt y j = -1
          · have ev : noV I y j = clk y + I 202 5 := by unfold noV; rw [if_pos h2, if_pos h3]
            have eg : z s 0 + gg z 18 1 = noV I y j := by rw [ev, p3.2.1, hl'.2.2.2.2.2.2.2.2.1, p2 202 (by omega)]
            rw [if_pos h3, rc_X8 ht.1, ob_s, si_give ht p3.1 hl'.1 hj, ob_s, bb_X8_setNotices_84, eg]
            exact ⟨_, rfl, onl_u p2 (by omega) (by omega), sr_notice hc' p3 h31 hs hj _⟩
          · have ev : noV I y j = mnt y j := by unfold noV; rw [if_pos h2, if_neg h3]
            have e4 : y (14 + 6 * j + 4) = (mnt y j).toInt64 := w.2.2.2.2.1
            rw [if_neg h3, bb_X8_setNotices_84, ev, fu_id e4]
            exact ⟨z, rfl, p2, p3⟩
        · have ev : noV I y j = -1 := by unfold noV; rw [if_neg h2]
          rw [if_neg h2, fR_X8_2 ht.1, ob_s, rc_X10 ht.2.1.1, ob_s, tb_set _ ht.2.1 p3.1.1 rfl (li_n 4) hj (by omega), ob_s, bb_X8_setNotices_84, ev]
          exact ⟨_, rfl, onl_u p2 (by omega) (by omega), sr_notice hc' p3 h31 hs hj _⟩) I ⟨onl_refl s I, hr⟩
  refine ⟨I', ?_, ho, hsr⟩
  refine e.trans ?_
  show bb_X8_setNotices_2 (n' + 1) s 18 (nI 12) (S0, I', J, x) = _
  rw [bb_X8_setNotices_2, if_pos li_12e]
end NP
