/-! ===== a request goes: class and model ===== -/
section DS
variable {I : Nat → Nat → Int32} {J : Nat → Nat → Int64} {x : Nat} {NH NY NE NR s : Nat} {f g : Nat → Int64}
theorem dropF_nq (hq : isn (f 1) 11) (r : Nat) : nq (dropF f r) = nq f - 1 ∧ isn (dropF f r 1) 11 := by
  have h2 : nq f < 11 := hq.2
  have e : dropF f r 1 = (nI (nq f - 1)).toInt64 := if_pos rfl
  have e2 : nq (dropF f r) = nq f - 1 := by
    unfold nq at e ⊢
    rw [e, nv_n (by unfold nq at h2; omega)]
  refine ⟨e2, ?_, ?_⟩
  · have : nv (dropF f r 1) = nq f - 1 := e2
    rw [this]; exact e
  · have : nv (dropF f r 1) = nq f - 1 := e2
    omega
theorem dropF_vq {r o w : Nat} (ho : o < nq f - 1) (hw : w < 3) : vq (dropF f r) o w = vq f (sk r o) w := by
  unfold vq dropF sk
  rw [if_neg (by omega)]
  by_cases h : o < r
  · rw [if_pos h, if_neg (by omega)]
  · rw [if_neg h, if_pos (by omega)]
    exact congrArg f (by omega)
theorem dropF_off {r k : Nat} (hk : k < 86) (h1 : k ≠ 1) : dropF f r k = f k := by
  unfold dropF
  rw [if_neg h1, if_neg (by omega)]
theorem dropF_vi {r i w : Nat} (hi : i < 12) (hw : w < 6) : vi (dropF f r) i w = vi f i w := dropF_off (by omega) (by omega)
theorem dropF_rn {r i : Nat} (hi : i < 12) : rn (dropF f r) i = rn f i := by
  unfold rn
  rw [dropF_vi hi (by omega)]
theorem rk_congr {b c : Nat → Int32} {n r : Nat} (h : ∀ k, k < n → b k = c k) (hr : r < n) : rk b n r = rk c n r := by
  unfold rk
  refine cn_congr (fun k hk => ?_)
  unfold bfr
  rw [h k hk, h r hr]
theorem dropF_lod (I : Nat → Nat → Int32) (r h w : Nat) : lod I (dropF f r) h w = lod I f h w := by
  unfold lod
  refine sm_congr (fun i hi => ?_)
  rw [dropF_rn hi]
  unfold ho ty
  rw [dropF_vi hi (by omega), dropF_vi hi (by omega)]
theorem dropF_rk {r o : Nat} (hr : r < nq f) (ho : o < nq f - 1) : rk (bq f) (nq f) (sk r o) = rk (bq (dropF f r)) (nq f - 1) o + (if rk (bq f) (nq f) r < rk (bq f) (nq f) (sk r o) then 1 else 0) := by
  have e : rk (bq (dropF f r)) (nq f - 1) o = rk (fun k => bq f (sk r k)) (nq f - 1) o := rk_congr (fun k hk => by unfold bq; rw [dropF_vq hk (by omega)]) ho
  rw [e]
  exact rk_drop (bq f) hr ho
/-- row p taken out of the requests -/
def rmU (I : Nat → Nat → Int32) (s n p : Nat) : Nat → Nat → Int32 := ab_u (ab_cp I (s + 3 + 1) ((p + 1) * 3) (s + 3 + 1) (p * 3) ((n - p - 1) * 3)) (s + 3) 3 (nI (n - 1))
theorem rmU_off {n p r : Nat} (h : r ≠ s + 3) (h2 : r ≠ s + 3 + 1) : rmU I s n p r = I r := by
  unfold rmU
  rw [u_r h]
  funext b
  unfold ab_cp
  rw [if_neg (fun q => h2 q.1)]
theorem sr_drop (hq : isn (f 1) 11) (h31 : 32 ≤ s) (hs : s < 181) (h6 : NY ≤ 6) (hr : sr I NY s f) {r : Nat} (hrn : r < nq f) : sr (rmU I s (nq f) (rk (bq f) (nq f) r)) NY s (dropF f r) := by
  have h10 : nq f < 11 := hq.2
  have ⟨e1, e2⟩ := dropF_nq hq r
  have hp := rk_lt (bq f) hrn
  generalize hpe : rk (bq f) (nq f) r = p at hp ⊢
  have ek : ∀ k, k ≠ 3 → rmU I s (nq f) p (s + 3) k = I (s + 3) k := fun k hk => by
    unfold rmU
    rw [u_k hk]
    unfold ab_cp
    rw [if_neg (by omega)]
  refine ⟨?_, ?_, ?_, fun j h12 hj => ?_, fun y hy => ?_, fun k hk w hw => ?_, ?_, fun o ho w hw => ?_⟩
  · have q := hr.1
    unfold siI tI at q ⊢
    rw [rmU_off (r := s + 1) (by omega) (by omega), ek 0 (by omega), ek 1 (by omega), rmU_off (r := s + 5) (by omega) (by omega), rmU_off (r := s + 7) (by omega) (by omega)]
    exact q
  · rw [rmU_off (by omega) (by omega), hr.2.1]
    unfold clk
    rw [dropF_off (by omega) (by omega)]
  · rw [rmU_off (by omega) (by omega), hr.2.2.1]
    exact sets_congr (fun j hj => (dropF_rn hj).symm)
  · rw [dropF_rn h12] at hj
    have q := hr.2.2.2.1 j h12 hj
    rw [dropF_vi h12 (by omega), dropF_vi h12 (by omega), dropF_vi h12 (by omega), dropF_vi h12 (by omega), dropF_vi h12 (by omega), dropF_vi h12 (by omega)]
    unfold gi at q ⊢
    rw [rmU_off (by omega) (by omega)]
    exact q
  · rw [dropF_off (by omega) (by omega), ← hr.2.2.2.2.1 y hy]
    unfold gp
    rw [rmU_off (by omega) (by omega)]
  · rw [dropF_lod, lod_I (rmU_off (by omega) (by omega)), ← hr.2.2.2.2.2.1 k hk w hw]
    unfold gl
    rw [rmU_off (by omega) (by omega)]
  · rw [e1]
    unfold rmU
    rw [u_e]
  · rw [e1] at ho ⊢
    have hk := dropF_rk hrn ho
    rw [hpe] at hk
    have ho2 := sk_lt hrn ho
    have hlt := rk_lt (bq f) ho2
    have hne : rk (bq f) (nq f) (sk r o) ≠ p := fun q => sk_ne r o (rk_inj (bq f) ho2 hrn (q.trans hpe.symm))
    rw [dropF_vq ho hw, ← hr.2.2.2.2.2.2.2 (sk r o) ho2 w hw]
    unfold gq rmU
    rw [u_r (by omega)]
    unfold ab_cp
    by_cases q : p < rk (bq f) (nq f) (sk r o)
    · rw [if_pos q] at hk
      rw [if_pos ⟨rfl, by omega, by omega⟩]
      exact congrArg (I (s + 3 + 1)) (by omega)
    · rw [if_neg q] at hk
      rw [if_neg (by omega)]
      exact congrArg (I (s + 3 + 1)) (by omega)
end DS
