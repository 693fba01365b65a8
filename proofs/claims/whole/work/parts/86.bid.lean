/-! ===== bid ===== -/
section BD
variable {I I' I0 I1 I2 I3 I4 : Nat → Nat → Int32} {J J' J1 J2 J3 J4 : Nat → Nat → Int64} {x : Nat} {NH NY NE NR s d u tp u' tp' : Nat} {f g f' : Nat → Int64} {H S H' : Nat → Nat → Int64} {b : Nat → Bool}
/-- a request more -/
def fqF (f : Nat → Int64) (e y v : Int64) : Nat → Int64 := fu (fu (fu (fu f (86 + 3 * nq f + 0) e) (86 + 3 * nq f + 1) y) (86 + 3 * nq f + 2) v) 1 (nI (nq f + 1)).toInt64
theorem fq_off {e y v : Int64} {k : Nat} (h : k < 86 + 3 * nq f) (h1 : k ≠ 1) : fqF f e y v k = f k := by
  unfold fqF
  rw [fu_n h1, fu_n (by omega), fu_n (by omega), fu_n (by omega)]
theorem fq_nq {e y v : Int64} (hq : nq f < 10) : nq (fqF f e y v) = nq f + 1 ∧ isn (fqF f e y v 1) 11 := by
  have e1 : fqF f e y v 1 = (nI (nq f + 1)).toInt64 := fu_e
  have e2 : nq (fqF f e y v) = nq f + 1 := by
    unfold nq at e1 ⊢
    rw [e1, nv_n (by unfold nq at hq; omega)]
  refine ⟨e2, ?_⟩
  rw [e1]
  exact isn_n (by omega) (by omega)
theorem fq_vq {e y v : Int64} {r w : Nat} (hr : r < nq f) (hw : w < 3) : vq (fqF f e y v) r w = vq f r w := fq_off (by omega) (by omega)
theorem fq_new {e y v : Int64} : vq (fqF f e y v) (nq f) 0 = e ∧ vq (fqF f e y v) (nq f) 1 = y ∧ vq (fqF f e y v) (nq f) 2 = v := by
  unfold vq fqF
  refine ⟨?_, ?_, ?_⟩
  · rw [fu_n (by omega), fu_n (by omega), fu_n (by omega), fu_e]
  · rw [fu_n (by omega), fu_n (by omega), fu_e]
  · rw [fu_n (by omega), fu_e]
theorem fq_vi {e y v : Int64} {i w : Nat} (hi : i < 12) (hw : w < 6) : vi (fqF f e y v) i w = vi f i w := fq_off (by omega) (by omega)
theorem fq_rn {e y v : Int64} {i : Nat} (hi : i < 12) : rn (fqF f e y v) i = rn f i := by unfold rn; rw [fq_vi hi (by omega)]
theorem fq_lod {e y v : Int64} (h w : Nat) : lod I (fqF f e y v) h w = lod I f h w := by
  unfold lod
  refine sm_congr (fun i hi => ?_)
  rw [fq_rn hi]
  unfold ho ty
  rw [fq_vi hi (by omega), fq_vi hi (by omega)]
theorem wff_fq (h6 : NY ≤ 6) (h6e : NE ≤ 6) (hw : wff I NH NY NE f) (hq : nq f < 10) {e y : Nat} {v : Int32} (he : e < NE) (hy : y < NY) (hv : isr v 1 9999) : wff I NH NY NE (fqF f (nI e).toInt64 (nI y).toInt64 v.toInt64) := by
  obtain ⟨w1, w2, w3, w4, w5, w6, w7⟩ := hw
  have ⟨e1, e2⟩ := @fq_nq f (nI e).toInt64 (nI y).toInt64 v.toInt64 hq
  refine ⟨by rw [fq_off (by omega) (by omega)]; exact w1, e2, fun i hi hr => ?_, fun i hi hr => ?_, fun z hz => by rw [fq_off (by omega) (by omega)]; exact w5 z hz, fun r hr => ?_, fun k hk w hw2 => ?_⟩
  · rw [fq_rn hi] at hr
    have q := w3 i hi hr
    unfold wfi at q ⊢
    rw [fq_vi hi (by omega), fq_vi hi (by omega), fq_vi hi (by omega), fq_vi hi (by omega), fq_vi hi (by omega), fq_vi hi (by omega)]
    exact q
  · rw [fq_rn hi] at hr
    have q := w4 i hi hr
    unfold mbd at q ⊢
    rw [fq_vi hi (by omega)]; exact q
  · rw [e1] at hr
    unfold bq
    by_cases q : r = nq f
    · have ⟨n0, n1, n2⟩ := @fq_new f (nI e).toInt64 (nI y).toInt64 v.toInt64
      rw [q, n0, n1, n2, Int32.toInt32_toInt64]
      exact ⟨isn_n he (by omega), isn_n hy (by omega), isI_j _, hv⟩
    · have w := w6 r (by omega)
      unfold bq at w
      rw [fq_vq (by omega) (by omega), fq_vq (by omega) (by omega), fq_vq (by omega) (by omega)]
      exact w
  · unfold fre
    rw [fq_lod]
    exact w7 k hk w hw2
/-- the place of a new bid -/
def plc (f : Nat → Int64) (v : Int32) : Nat := cn (fun k => !decide (bq f k < v)) (nq f)
theorem plc_le (v : Int32) : plc f v ≤ nq f := cn_le _ _
theorem fq_bq {e y : Int64} {v : Int32} {r : Nat} (hr : r < nq f) : bq (fqF f e y v.toInt64) r = bq f r := by unfold bq; rw [fq_vq hr (by omega)]
theorem fq_bqn {e y : Int64} {v : Int32} : bq (fqF f e y v.toInt64) (nq f) = v := by unfold bq; rw [fq_new.2.2, Int32.toInt32_toInt64]
theorem fq_plc {e y : Int64} {v : Int32} : cn (fun k => !decide (bq (fqF f e y v.toInt64) k < bq (fqF f e y v.toInt64) (nq f))) (nq f) = plc f v := by
  unfold plc
  refine cn_congr (fun k hk => ?_)
  rw [fq_bq hk, fq_bqn]
theorem fq_rk {e y : Int64} {v : Int32} {r : Nat} (hr : r < nq f) : rk (bq (fqF f e y v.toInt64)) (nq f) r = rk (bq f) (nq f) r := rk_congr (fun k hk => fq_bq hk) hr
theorem fq_rkS {e y : Int64} {v : Int32} {r : Nat} (hr : r < nq f) : rk (bq (fqF f e y v.toInt64)) (nq f + 1) r = rk (bq f) (nq f) r + (if bq f r < v then 1 else 0) := by
  rw [rk_new _ hr, fq_rk hr, fq_bq hr, fq_bqn]
theorem fq_rkN {e y : Int64} {v : Int32} : rk (bq (fqF f e y v.toInt64)) (nq f + 1) (nq f) = plc f v := by
  rw [rk_newN, fq_plc]
theorem fq_pl (e y : Int64) {v : Int32} {r : Nat} (hr : r < nq f) : (rk (bq f) (nq f) r < plc f v) = ¬ (bq f r < v) := by
  have q := rk_place (bq (fqF f e y v.toInt64)) hr
  rw [fq_plc, fq_rk hr, fq_bq hr, fq_bqn] at q
  exact q
/-- cells when a row is put in -/
def inU (I : Nat → Nat → Int32) (s n p : Nat) (e y v : Int32) : Nat → Nat → Int32 := ab_u (ab_u (ab_u (ab_u (ab_cp I (s + 3 + 1) (p * 3) (s + 3 + 1) ((p + 1) * 3) ((n - p) * 3)) (s + 3) 3 (nI (n + 1))) (s + 3 + 1) (p * 3 + 0) e) (s + 3 + 1) (p * 3 + 1) y) (s + 3 + 1) (p * 3 + 2) v
theorem inU_off {n p r : Nat} {e y v : Int32} (h : r ≠ s + 3) (h2 : r ≠ s + 3 + 1) : inU I s n p e y v r = I r := by
  unfold inU
  rw [u_r h2, u_r h2, u_r h2, u_r h, ab_cp_off _ _ _ _ _ h2]
theorem inU_t {n p k : Nat} {e y v : Int32} (hk : k ≠ 3) : inU I s n p e y v (s + 3) k = I (s + 3) k := by
  unfold inU
  rw [u_r (by omega), u_r (by omega), u_r (by omega), u_k hk, ab_cp_off _ _ _ _ _ (by omega)]
theorem inU_n {n p : Nat} {e y v : Int32} : inU I s n p e y v (s + 3) 3 = nI (n + 1) := by
  unfold inU
  rw [u_r (by omega), u_r (by omega), u_r (by omega), u_e]
theorem inU_lo {n p q w : Nat} {e y v : Int32} (hw : w < 3) (hq : q < p) : inU I s n p e y v (s + 3 + 1) (q * 3 + w) = I (s + 3 + 1) (q * 3 + w) := by
  unfold inU
  rw [u_k (by omega), u_k (by omega), u_k (by omega), u_r (by omega)]
  unfold ab_cp
  rw [if_neg (by omega)]
theorem inU_hi {n p q w : Nat} {e y v : Int32} (hw : w < 3) (hq : p ≤ q) (hn : q < n) : inU I s n p e y v (s + 3 + 1) ((q + 1) * 3 + w) = I (s + 3 + 1) (q * 3 + w) := by
  unfold inU
  rw [u_k (by omega), u_k (by omega), u_k (by omega), u_r (by omega)]
  unfold ab_cp
  rw [if_pos ⟨rfl, by omega, by omega⟩]
  exact congrArg (I (s + 3 + 1)) (by omega)
theorem inU_p {n p : Nat} {e y v : Int32} : inU I s n p e y v (s + 3 + 1) (p * 3 + 0) = e ∧ inU I s n p e y v (s + 3 + 1) (p * 3 + 1) = y ∧ inU I s n p e y v (s + 3 + 1) (p * 3 + 2) = v := by
  unfold inU
  refine ⟨?_, ?_, u_e⟩
  · rw [u_k (by omega), u_k (by omega), u_e]
  · rw [u_k (by omega), u_e]
theorem sr_queue (h31 : 32 ≤ s) (hs : s < 166) (h6 : NY ≤ 6) (hq : nq f < 10) (hr : sr I NY s f) (e y : Nat) (v : Int32) : sr (inU I s (nq f) (plc f v) (nI e) (nI y) v) NY s (fqF f (nI e).toInt64 (nI y).toInt64 v.toInt64) := by
  have ⟨e1, _⟩ := @fq_nq f (nI e).toInt64 (nI y).toInt64 v.toInt64 hq
  refine ⟨?_, ?_, ?_, fun j h12 hj => ?_, fun z hz => ?_, fun k hk w hw => ?_, ?_, fun r hr1 w hw => ?_⟩
  · have q := hr.1
    unfold siI tI at q ⊢
    rw [inU_off (r := s + 1) (by omega) (by omega), inU_t (k := 0) (by omega), inU_t (k := 1) (by omega), inU_off (r := s + 5) (by omega) (by omega), inU_off (r := s + 7) (by omega) (by omega)]
    exact q
  · rw [inU_off (by omega) (by omega), hr.2.1]
    unfold clk
    rw [fq_off (by omega) (by omega)]
  · rw [inU_off (by omega) (by omega), hr.2.2.1]
    exact sets_congr (fun j hj => (fq_rn hj).symm)
  · rw [fq_rn h12] at hj
    have q := hr.2.2.2.1 j h12 hj
    rw [fq_vi h12 (by omega), fq_vi h12 (by omega), fq_vi h12 (by omega), fq_vi h12 (by omega), fq_vi h12 (by omega), fq_vi h12 (by omega)]
    unfold gi at q ⊢
    rw [inU_off (by omega) (by omega)]
    exact q
  · rw [fq_off (by omega) (by omega), ← hr.2.2.2.2.1 z hz]
    unfold gp
    rw [inU_off (by omega) (by omega)]
  · rw [fq_lod, lod_I (inU_off (by omega) (by omega)), ← hr.2.2.2.2.2.1 k hk w hw]
    unfold gl
    rw [inU_off (by omega) (by omega)]
  · rw [inU_n, e1]
  · rw [e1] at hr1 ⊢
    unfold gq
    by_cases q : r = nq f
    · subst q
      rw [fq_rkN]
      have ⟨a0, a1, a2⟩ := @inU_p I s (nq f) (plc f v) (nI e) (nI y) v
      have ⟨n0, n1, n2⟩ := @fq_new f (nI e).toInt64 (nI y).toInt64 v.toInt64
      match w, hw with
      | 0, _ => rw [n0, Int32.toInt32_toInt64]; exact a0
      | 1, _ => rw [n1, Int32.toInt32_toInt64]; exact a1
      | 2, _ => rw [n2, Int32.toInt32_toInt64]; exact a2
    · have hrn : r < nq f := by omega
      have old := hr.2.2.2.2.2.2.2 r hrn w hw
      unfold gq at old
      have hlt := rk_lt (bq f) hrn
      have pl := fq_pl (nI e).toInt64 (nI y).toInt64 (v := v) hrn
      rw [fq_rkS hrn, fq_vq hrn hw, ← old]
      by_cases hb : bq f r < v
      · have hge : plc f v ≤ rk (bq f) (nq f) r := by
          have : ¬ rk (bq f) (nq f) r < plc f v := by rw [pl]; exact fun q => q hb
          omega
        rw [if_pos hb, inU_hi hw hge hlt]
      · have hlo : rk (bq f) (nq f) r < plc f v := by rw [pl]; exact hb
        rw [if_neg hb]
        exact inU_lo hw hlo
/-- the class puts a request in -/
theorem c_queue (hr : sr I NY 32 f) (hq : nq f < 10) (e y v : Int32) : dd_X8_queue 32 e y v (S0, I, J, x) = some ((), (S0, inU I 32 (nq f) (plc f v) e y v, J, x)) := by
  have hsz : I (32 + 3) 3 = nI (nq f) := hr.2.2.2.2.2.2.1
  have hpl := @plc_le f v
  have key : bb_X8_queue_35 32 e y v (nI (plc f v)) (S0, I, J, x) = some ((), (S0, inU I 32 (nq f) (plc f v) e y v, J, x)) := by
    unfold bb_X8_queue_35
    rw [fR_X8_3 si31.1, ob_s, rc_X10 si31.2.2.1.1, ob_s, tb_insert si31.2.2.1 hr.1.2.1 hsz rfl hpl (by omega), ob_s]
    have g1 : tI (ab_u (ab_cp I (32 + 3 + 1) (plc f v * 3) (32 + 3 + 1) ((plc f v + 1) * 3) ((nq f - plc f v) * 3)) (32 + 3) 3 (nI (nq f + 1))) (32 + 3) 10 3 := by
      have q := hr.1.2.1
      unfold tI at q ⊢
      rw [u_k (by omega), u_k (by omega), ab_cp_off _ _ _ _ _ (by omega)]
      exact q
    have g2 : ∀ (k : Nat) (z : Int32) (I1 : Nat → Nat → Int32), tI I1 (32 + 3) 10 3 → tI (ab_u I1 (32 + 3 + 1) k z) (32 + 3) 10 3 := by
      intro k z I1 q
      unfold tI at q ⊢
      rw [u_r (by omega)]
      exact q
    rw [fR_X8_3 si31.1, ob_s, rc_X10 si31.2.2.1.1, ob_s, tb_set _ si31.2.2.1 g1 rfl li_0 (by omega) (by omega), ob_s, fR_X8_3 si31.1, ob_s, rc_X10 si31.2.2.1.1, ob_s, tb_set _ si31.2.2.1 (g2 _ _ _ g1) rfl (li_n 1) (by omega) (by omega), ob_s, fR_X8_3 si31.1, ob_s, rc_X10 si31.2.2.1.1, ob_s, tb_set _ si31.2.2.1 (g2 _ _ _ (g2 _ _ _ g1)) rfl (li_n 2) (by omega) (by omega), ob_s]
    rfl
  have cell : ∀ p, p < nq f → (gq I 32 p 2 < v) = ¬ p < plc f v := by
    intro p hp
    obtain ⟨r, hrn, hrk⟩ := rk_surj (bq f) hp
    have q := hr.2.2.2.2.2.2.2 r hrn 2 (by omega)
    rw [hrk] at q
    have pl := fq_pl 0 0 (v := v) hrn
    rw [hrk] at pl
    rw [pl, q]
    exact propext ⟨fun a c => c a, fun a => Classical.byContradiction (fun c => a c)⟩
  unfold dd_X8_queue
  have lf := lp_fd (fun n k => bb_X8_queue_3 n 32 e y v k (S0, I, J, x)) (nq f) (by omega) (fun p => decide (gq I 32 p 2 < v)) (fun p => bb_X8_queue_35 32 e y v (nI p) (S0, I, J, x)) (bb_X8_queue_35 32 e y v (nI (nq f)) (S0, I, J, x)) (fun n p hp => by
    show bb_X8_queue_3 (n + 1) 32 e y v (nI p) (S0, I, J, x) = _
    rw [bb_X8_queue_3, fR_X8_3 si31.1, ob_s, fI_X10_3 si31.2.2.1.1, ob_s, hsz, if_neg (by rw [li_le (by omega) (by omega)]; omega), ob_s, rc_X10 si31.2.2.1.1, ob_s, si_getq si31 hr.1 rfl (li_n 2) (by omega) (by omega), ob_s]
    by_cases h : gq I 32 p 2 < v
    · rw [if_pos h, if_pos (decide_eq_true h)]
    · rw [if_neg h, if_neg (by rw [decide_eq_false h]; decide)]) (fun n => by
    show bb_X8_queue_3 (n + 1) 32 e y v (nI (nq f)) (S0, I, J, x) = _
    rw [bb_X8_queue_3, fR_X8_3 si31.1, ob_s, fI_X10_3 si31.2.2.1.1, ob_s, hsz, if_pos (le_self _)])
  refine lf.trans ?_
  by_cases hp : plc f v = nq f
  · rw [fd_no (fun p _ h => decide_eq_false (by rw [cell p (by omega)]; omega)), ← key, hp]
  · rw [fd_is (r := plc f v) (by omega) (by omega) (decide_eq_true (by rw [cell _ (by omega)]; omega)) (fun p _ h => decide_eq_false (by rw [cell p (by omega)]; omega)), ← key]
end BD
