/-! ===== the requests of an hour: the class ===== -/
section GU
variable {I I' : Nat → Nat → Int32} {J : Nat → Nat → Int64} {x : Nat} {NH NY NE NR s : Nat} {f f' : Nat → Int64}
theorem fre_I (h1 : I' 203 = I 203) (h2 : I' 204 = I 204) (f : Nat → Int64) (h w : Nat) : fre I' f h w = fre I f h w := by
  unfold fre mh
  rw [h1, lod_I h2]
theorem mfit_I (h1 : I' 203 = I 203) (h2 : I' 204 = I 204) (f : Nat → Int64) (y h : Nat) : mfit I' f y h = mfit I f y h := by
  unfold mfit
  rw [fre_I h1 h2, fre_I h1 h2]
  unfold mt
  rw [h2]
theorem mbest_I (h1 : I' 203 = I 203) (h2 : I' 204 = I 204) (f : Nat → Int64) (y n : Nat) : mbest I' f y n = mbest I f y n := by
  unfold mbest
  refine itr_congr n 0 _ (fun i b _ _ => ?_)
  rw [mfit_I h1 h2, fre_I h1 h2, fre_I h1 h2]
theorem grF_I (h1 : I' 203 = I 203) (h2 : I' 204 = I 204) : ∀ (k p : Nat) (f : Nat → Int64), grF I' NH k p f = grF I NH k p f := by
  intro k
  induction k with
  | zero => exact fun _ _ => rfl
  | succ k ih =>
    intro p f
    unfold grF
    cases rqA f (nI p) with
    | none => rfl
    | some r =>
      show (if can I' NH f r = true then grF I' NH k p (nxF I' NH f r) else grF I' NH k (p + 1) f) = (if can I NH f r = true then grF I NH k p (nxF I NH f r) else grF I NH k (p + 1) f)
      have e1 : can I' NH f r = can I NH f r := by unfold can; rw [mbest_I h1 h2]
      have e2 : nxF I' NH f r = nxF I NH f r := by unfold nxF; rw [mbest_I h1 h2]
      rw [e1, e2, ih, ih]
theorem wff_onl (hw : wff I NH NY NE f) (ho : onl s I I') (hs : s < 181) : wff I' NH NY NE f := by
  obtain ⟨w1, w2, w3, w4, w5, w6, w7⟩ := hw
  refine ⟨w1, w2, w3, w4, w5, w6, fun h hh w hw2 => ?_⟩
  rw [fre_I (ho 203 (by omega)) (ho 204 (by omega))]
  exact w7 h hh w hw2
theorem onl_ldU (h k : Nat) (a b : Int32) (o : onl s I I') : onl s I (ldU I' s h a b) := by
  unfold ldU
  exact onl_u (onl_u o (by omega) (by omega)) (by omega) (by omega)
theorem onl_rwU (i : Nat) (e y b h k : Int32) (o : onl s I I') : onl s I (rwU I' s i e y b h k) := by
  unfold rwU
  exact onl_u (onl_u (onl_u (onl_u (onl_u (onl_u o (by omega) (by omega)) (by omega) (by omega)) (by omega) (by omega)) (by omega) (by omega)) (by omega) (by omega)) (by omega) (by omega)
theorem onl_rmU (n p : Nat) (o : onl s I I') : onl s I (rmU I' s n p) := fun r hr => by
  rw [rmU_off (by omega) (by omega)]
  exact o r hr
theorem si_grant (ht : siT s) (h31 : 32 ≤ s) (hs : s < 181) : ∀ (k c p n : Nat) (I : Nat → Nat → Int32) (f : Nat → Int64), c + k = 10 → k < n → p ≤ 20 → mc I NH NY NE NR → mrg I NH NY NE NR → clR I NH NY NE NR → wff I NH NY NE f → sr I NY s f →
    ∃ I', bb_X8_grantRequests_4 n s 18 (nI p) (nI c) (S0, I, J, x) = some ((), (S0, I', J, x)) ∧ onl s I I' ∧ sr I' NY s (grF I NH k p f) := by
  intro k
  induction k with
  | zero =>
    intro c p n I f hck hn hp hc hg hl hw hr
    obtain ⟨n, rfl⟩ : ∃ q, n = q + 1 := ⟨n - 1, by omega⟩
    refine ⟨I, ?_, onl_refl s I, hr⟩
    rw [bb_X8_grantRequests_4, if_pos (by rw [li_n 10, li_le (by omega) (by omega)]; omega)]
    rfl
  | succ k ih =>
    intro c p n I f hck hn hp hc hg hl hw hr
    obtain ⟨n, rfl⟩ : ∃ q, n = q + 1 := ⟨n - 1, by omega⟩
    have h10 : nq f < 11 := hw.2.1.2
    have h6 := hc.2.2.1
    have h8 := hc.2.1
    have hsz : I (s + 3) 3 = nI (nq f) := hr.2.2.2.2.2.2.1
    rw [bb_X8_grantRequests_4, if_neg (by rw [li_n 10, li_le (by omega) (by omega)]; omega), fR_X8_3 ht.1, ob_s, fI_X10_3 ht.2.2.1.1, ob_s, hsz]
    unfold grF
    by_cases hpq : nq f ≤ p
    · have e : rqA f (nI p) = none := rqA_no hw.2.1 (by rw [inN_n (by omega)]; simp; omega)
      rw [if_pos (by rw [li_le (by omega) (by omega)]; exact hpq), e]
      exact ⟨I, rfl, onl_refl s I, hr⟩
    · obtain ⟨r, hrn, hrk⟩ := rk_surj (bq f) (show p < nq f by omega)
      have e : rqA f (nI p) = some r := rqA_is hw.2.1 hrn hrk
      have q := hw.2.2.2.2.2.1 r hrn
      have g0 := hr.2.2.2.2.2.2.2 r hrn 0 (by omega)
      have g1 := hr.2.2.2.2.2.2.2 r hrn 1 (by omega)
      have g2 := hr.2.2.2.2.2.2.2 r hrn 2 (by omega)
      rw [hrk] at g0 g1 g2
      have ey : gq I s p 1 = nI (rqy f r) := g1.trans (isn_32 q.2.1)
      have ee : gq I s p 0 = nI (rqe f r) := g0.trans (isn_32 q.1)
      have eb : gq I s p 2 = bq f r := g2
      have hy : rqy f r < NY := q.2.1.2
      have hp10 : p < 10 := by omega
      have egp : gp I s (rqy f r) = (f (2 + rqy f r)).toInt32 := hr.2.2.2.2.1 _ hy
      rw [if_neg (by rw [li_le (by omega) (by omega)]; exact hpq), ob_s, rc_X10 ht.2.2.1.1, ob_s, si_getq ht hr.1 rfl (li_n 1) hp10 (by omega), ob_s, fR_X8_3 ht.1, ob_s, rc_X10 ht.2.2.1.1, ob_s, si_getq ht hr.1 rfl (li_n 2) hp10 (by omega), ob_s, fR_X8_4 ht.1, ob_s, rc_X10 ht.2.2.2.1.1, ob_s, si_getp ht hr.1 ey rfl (by omega), ob_s, ey, eb, egp, e]
      have skip : can I NH f r = false → ∃ I', bb_X8_grantRequests_88 (bb_X8_grantRequests_4 n) s 18 (nI p) (nI c) (nI (rqy f r)) (bq f r) (-1) (S0, I, J, x) = some ((), (S0, I', J, x)) ∧ onl s I I' ∧ sr I' NY s (grF I NH k (p + 1) f) := by
        intro _
        rw [bb_X8_grantRequests_88, if_pos rfl, bb_X8_grantRequests_131, nI_1, nI_1]
        exact ih (c + 1) (p + 1) n I f (by omega) (by omega) (by omega) hc hg hl hw hr
      show ∃ I', _ ∧ onl s I I' ∧ sr I' NY s (if can I NH f r = true then grF I NH k p (nxF I NH f r) else grF I NH k (p + 1) f)
      by_cases h1 : bq f r < (f (2 + rqy f r)).toInt32
      · have hcan : can I NH f r = false := by simp [can, h1]
        rw [if_pos h1, if_neg (by rw [hcan]; decide), bb_X8_grantRequests_69, bb_X8_grantRequests_70, if_pos rfl]
        exact skip hcan
      · rw [if_neg h1, rc_X8 ht.1, ob_s, si_full ht hr, ob_s]
        by_cases h2 : cn (rn f) 12 < 12
        · rw [if_pos h2]
          simp only [if_true]
          rw [bb_X8_grantRequests_70, if_neg n10, rc_X8 ht.1, ob_s, si_best ht hr.1 cl17 hl.1 rfl (show rqy f r < 6 by omega) hl.2.1.1 h8, ob_s, sr_best hl hg hw.2.2.1 hr hy h8]
          by_cases h3 : (mbest I f (rqy f r) NH).1 = -1
          · have hcan : can I NH f r = false := by simp [can, h3]
            rw [h3, if_neg (by rw [hcan]; decide)]
            exact skip hcan
          · have hcan : can I NH f r = true := by simp [can, h1, h2, h3]
            obtain ⟨i, h, hi, el, hh, e1, e2', e3⟩ := can_ex hw h8 hcan
            rw [if_pos hcan, e1, bb_X8_grantRequests_88, if_neg (nI_ne (by omega)), fR_X8_3 ht.1, ob_s, rc_X10 ht.2.2.1.1, ob_s, si_getq ht hr.1 rfl li_0 hp10 (by omega), ob_s, rc_X8 ht.1, ob_s, ee, si_start ht h31 hr.1 hl.1 hr el (nI (rqe f r)) (bq f r) (by omega) (by omega), ob_s]
            have s1 := sr_start hl hc hr h31 hs (e := rqe f r) (y := rqy f r) el (bq f r) q.1.2 hy hh
            have o1 : onl s I (ldU (rwU (ab_u I s 1 (I s 1 ||| ((1 : Int32) <<< (nI i &&& 31)))) s i (nI (rqe f r)) (nI (rqy f r)) (bq f r) (nI h) (I s 0)) s h (gt I 18 (rqy f r) 0) (gt I 18 (rqy f r) 1)) := onl_ldU h 0 _ _ (onl_rwU i _ _ _ _ _ (onl_u (onl_refl s I) (by omega) (by omega)))
            have en := @fst_rq f i hi (nI (rqe f r)).toInt64 (nI (rqy f r)).toInt64 (nI h).toInt64 (bq f r).toInt64
            have ws := wff_start hg hc hw (e := rqe f r) (y := rqy f r) (b := bq f r) el q.1.2 hy hh (Or.inr q.2.2.2) e2'
            generalize ldU (rwU (ab_u I s 1 (I s 1 ||| ((1 : Int32) <<< (nI i &&& 31)))) s i (nI (rqe f r)) (nI (rqy f r)) (bq f r) (nI h) (I s 0)) s h (gt I 18 (rqy f r) 0) (gt I 18 (rqy f r) 1) = I1 at s1 o1 ⊢
            have s1' : sr I1 NY s (fst f i (nI (rqe f r)).toInt64 (nI (rqy f r)).toInt64 (nI h).toInt64 (bq f r).toInt64) := s1
            generalize hfe : fst f i (nI (rqe f r)).toInt64 (nI (rqy f r)).toInt64 (nI h).toInt64 (bq f r).toInt64 = g at s1' en ws e3
            have hz1 : I1 (s + 3) 3 = nI (nq f) := s1'.2.2.2.2.2.2.1.trans (by rw [en.1])
            rw [fR_X8_3 ht.1, ob_s, rc_X10 ht.2.2.1.1, ob_s, tb_remove ht.2.2.1 s1'.1.2.1 hz1 rfl (show p < nq f by omega) (by omega), ob_s, bb_X8_grantRequests_131, nI_1]
            have s2 := sr_drop ws.2.1 h31 hs h6 s1' (r := r) (by rw [en.1]; exact hrn)
            rw [en.1, en.2.1, hrk] at s2
            rw [← e3] at s2
            have o2 : onl s I (rmU I1 s (nq f) p) := onl_rmU _ _ o1
            have w2 := (nxF_wff hg hc hw hrn hcan).1
            obtain ⟨I', a1, a2, a3⟩ := ih (c + 1) p n (rmU I1 s (nq f) p) (nxF I NH f r) (by omega) (by omega) hp (mc_onl hc o2 hs) (mrg_onl hg o2 hs) (clR_onl hl o2 h31 hs) (wff_onl w2 o2 hs) s2
            rw [grF_I (o2 203 (by omega)) (o2 204 (by omega))] at a3
            exact ⟨I', a1, onl_trans o2 a2, a3⟩
        · have hcan : can I NH f r = false := by simp [can, h2]
          rw [if_neg h2, if_neg n10, if_neg (by rw [hcan]; decide), bb_X8_grantRequests_69, bb_X8_grantRequests_70, if_pos rfl]
          exact skip hcan
end GU
