/-! ===== writes keep class and model together ===== -/
def fu (f : Nat → Int64) (k : Nat) (v : Int64) : Nat → Int64 := fun j => if j = k then v else f j
theorem fu_e {f : Nat → Int64} {k : Nat} {v : Int64} : fu f k v k = v := if_pos rfl
theorem fu_n {f : Nat → Int64} {k j : Nat} {v : Int64} (h : j ≠ k) : fu f k v j = f j := if_neg h
theorem ab_u_fu {J : Nat → Nat → Int64} {r k : Nat} {v : Int64} : ab_u J r k v r = fu (J r) k v := by
  funext b
  unfold ab_u fu
  by_cases h : b = k <;> simp [h]
theorem rq_congr {f f' : Nat → Int64} (h1 : f' 1 = f 1) (h : ∀ k, 86 ≤ k → f' k = f k) : nq f' = nq f ∧ bq f' = bq f ∧ vq f' = vq f := by
  have e : vq f' = vq f := by
    funext r w
    exact h _ (by omega)
  refine ⟨by unfold nq; rw [h1], ?_, e⟩
  funext r
  unfold bq
  rw [e]
/-- nothing but instance i differs -/
def oi (i : Nat) (f f' : Nat → Int64) : Prop := ∀ k, k < 14 + 6 * i ∨ 14 + 6 * i + 6 ≤ k → f' k = f k
theorem oi_vi {i j w : Nat} {f f' : Nat → Int64} (h : oi i f f') (hj : j ≠ i) (hw : w < 6) : vi f' j w = vi f j w := h _ (by omega)
theorem oi_rn {i j : Nat} {f f' : Nat → Int64} (h : oi i f f') (hj : j ≠ i) : rn f' j = rn f j := by
  unfold rn
  rw [oi_vi h hj (by omega)]
theorem oi_rq {i : Nat} {f f' : Nat → Int64} (h : oi i f f') (hi : i < 12) : nq f' = nq f ∧ bq f' = bq f ∧ vq f' = vq f := rq_congr (h 1 (by omega)) (fun k hk => h k (by omega))
theorem oi_fu {i w : Nat} {f f' : Nat → Int64} {v : Int64} (h : oi i f f') (hw : w < 6) : oi i f (fu f' (14 + 6 * i + w) v) := fun k hk => by
  rw [fu_n (by omega)]
  exact h k hk
theorem oi_refl (i : Nat) (f : Nat → Int64) : oi i f f := fun _ _ => rfl
theorem lod_upd {I : Nat → Nat → Int32} {i : Nat} {f f' : Nat → Int64} (h : oi i f f') (hi : i < 12) (k w : Nat) : lod I f' k w = lod I f k w + ((if rn f' i = true ∧ ho f' i = k then mt I (ty f' i) w else 0) - (if rn f i = true ∧ ho f i = k then mt I (ty f i) w else 0)) := by
  unfold lod
  refine sm_upd (j := i) hi (fun j hj hne => ?_)
  rw [oi_rn h hne]
  unfold ho ty
  rw [oi_vi h hne (by omega), oi_vi h hne (by omega)]
theorem lod_I {I I' : Nat → Nat → Int32} (h : I' 204 = I 204) (f : Nat → Int64) (k w : Nat) : lod I' f k w = lod I f k w := by
  unfold lod mt
  rw [h]
section KE
variable {I : Nat → Nat → Int32} {J : Nat → Nat → Int64} {x : Nat} {NH NY NE NR s : Nat} {f f' : Nat → Int64}
/-- a situation's cells when only instance i, its loads and the set change -/
theorem sr_inst {I' : Nat → Nat → Int32} {i : Nat} (hr : sr I NY s f) (hi : i < 12) (h6 : NY ≤ 6) (h : oi i f f') (hI : siI I' s) (h0 : I' s 0 = I s 0) (h1 : I' s 1 = sets (rn f'))
    (hj : ∀ j, j < 12 → j ≠ i → ∀ w, w < 6 → gi I' s j w = gi I s j w)
    (hii : rn f' i = true → gi I' s i 0 = (vi f' i 0).toInt32 ∧ gi I' s i 1 = (vi f' i 1).toInt32 ∧ gi I' s i 2 = (vi f' i 3).toInt32 ∧ gi I' s i 3 = (vi f' i 2).toInt32 ∧ gi I' s i 4 = (vi f' i 4).toInt32 ∧ gi I' s i 5 = (vi f' i 5).toInt32)
    (hp : I' (s + 6) = I (s + 6)) (hq : I' (s + 4) = I (s + 4)) (hz : I' (s + 3) 3 = I (s + 3) 3)
    (hl : ∀ k, k < 8 → ∀ w, w < 2 → gl I' s k w = lod I' f' k w) : sr I' NY s f' := by
  have ⟨e1, e2, e3⟩ := oi_rq h hi
  refine ⟨hI, h0.trans (hr.2.1.trans ?_), h1, fun j h12 hrn => ?_, fun y hy => ?_, hl, ?_, fun r hr1 w hw => ?_⟩
  · unfold clk
    rw [h 0 (by omega)]
  · by_cases e : j = i
    · rw [e] at hrn ⊢; exact hii hrn
    · have q := hr.2.2.2.1 j h12 (by rw [← oi_rn h e]; exact hrn)
      rw [hj j h12 e 0 (by omega), hj j h12 e 1 (by omega), hj j h12 e 2 (by omega), hj j h12 e 3 (by omega), hj j h12 e 4 (by omega), hj j h12 e 5 (by omega), oi_vi h e (by omega), oi_vi h e (by omega), oi_vi h e (by omega), oi_vi h e (by omega), oi_vi h e (by omega), oi_vi h e (by omega)]
      exact q
  · rw [h (2 + y) (by omega), ← hr.2.2.2.2.1 y hy]
    unfold gp
    rw [hp]
  · rw [hz, e1]; exact hr.2.2.2.2.2.2.1
  · rw [e1] at hr1 ⊢
    rw [e2, e3, ← hr.2.2.2.2.2.2.2 r hr1 w hw]
    unfold gq
    rw [hq]
theorem rn_fu0 {i : Nat} : rn (fu f (14 + 6 * i + 0) (-1)) i = false := by
  unfold rn vi
  rw [fu_e]; rfl
theorem sr_end (hl : clR I NH NY NE NR) (hc : mc I NH NY NE NR) (hw : wfs NH NY NE f) (hr : sr I NY s f) (h31 : 32 ≤ s) (hs : s < 181) {i : Nat} (hi : i < 12) (hrn : rn f i = true) :
    sr (ab_u (ldU I s (ho f i) (-1 * gt I 18 (ty f i) 0) (-1 * gt I 18 (ty f i) 1)) s 1 (I s 1 &&& (((1 : Int32) <<< (nI i &&& 31)) ^^^ (-1)))) NY s (fu f (14 + 6 * i + 0) (-1)) := by
  have ho8 : ho f i < 8 := by have := ho_lt hw hi hrn; have := hc.2.1; omega
  have hty := ty_lt hw hi hrn
  have h : oi i f (fu f (14 + 6 * i + 0) (-1)) := oi_fu (oi_refl i f) (by omega)
  refine sr_inst hr hi hc.2.2.1 h ?_ ?_ ?_ ?_ ?_ ?_ ?_ ?_ ?_
  · exact siI_u (siI_u (siI_u hr.1 (Or.inl (by omega))) (Or.inl (by omega))) (Or.inl (by omega))
  · unfold ldU
    simp (disch := omega) only [u_e, u_r, u_k]
  · rw [u_e, hr.2.2.1, sets_andn _ hi]
    refine sets_congr (fun j hj => ?_)
    by_cases e : j = i
    · rw [e, rn_fu0]; simp
    · rw [oi_rn h e]; simp [e]
  · intro j hj hne w hw6
    unfold gi ldU
    simp (disch := omega) only [u_e, u_r, u_k]
  · intro q
    rw [rn_fu0] at q; cases q
  · unfold ldU
    simp (disch := omega) only [u_e, u_r, u_k]
  · unfold ldU
    simp (disch := omega) only [u_e, u_r, u_k]
  · unfold ldU
    simp (disch := omega) only [u_e, u_r, u_k]
  · intro k hk w hw2
    have e202 : (ab_u (ldU I s (ho f i) (-1 * gt I 18 (ty f i) 0) (-1 * gt I 18 (ty f i) 1)) s 1 (I s 1 &&& (((1 : Int32) <<< (nI i &&& 31)) ^^^ (-1)))) 204 = I 204 := by
      unfold ldU
      simp (disch := omega) only [u_e, u_r, u_k]
    rw [lod_I e202, lod_upd h hi, rn_fu0]
    simp only [Bool.false_eq_true, false_and, if_false, hrn, true_and]
    have g0 := hr.2.2.2.2.2.1 k hk w hw2
    have gt0 := hl.2.2.2.2.1 (ty f i) hty w (by omega)
    rw [← g0, ← gt0]
    unfold gl ldU
    by_cases e : ho f i = k
    · rw [if_pos e, ← e]
      match w, hw2 with
      | 0, _ =>
        simp (disch := omega) only [u_e, u_r, u_k]
        grind
      | 1, _ =>
        simp (disch := omega) only [u_e, u_r, u_k]
        grind
    · rw [if_neg e]
      simp (disch := omega) only [u_e, u_r, u_k]
      grind
/-- the row of a new instance -/
def fst (f : Nat → Int64) (i : Nat) (e y h b : Int64) : Nat → Int64 := fu (fu (fu (fu (fu (fu f (14 + 6 * i + 0) e) (14 + 6 * i + 1) y) (14 + 6 * i + 2) h) (14 + 6 * i + 3) b) (14 + 6 * i + 4) (-1)) (14 + 6 * i + 5) (f 0)
theorem fst_vi {i : Nat} {e y h b : Int64} : vi (fst f i e y h b) i 0 = e ∧ vi (fst f i e y h b) i 1 = y ∧ vi (fst f i e y h b) i 2 = h ∧ vi (fst f i e y h b) i 3 = b ∧ vi (fst f i e y h b) i 4 = -1 ∧ vi (fst f i e y h b) i 5 = f 0 := by
  unfold vi fst
  simp (disch := omega) only [fu_e, fu_n, and_self]
theorem fst_oi {i : Nat} {e y h b : Int64} : oi i f (fst f i e y h b) := oi_fu (oi_fu (oi_fu (oi_fu (oi_fu (oi_fu (oi_refl i f) (by omega)) (by omega)) (by omega)) (by omega)) (by omega)) (by omega)
theorem n_ne {e : Nat} (h : e < 2 ^ 31) : (nI e).toInt64 ≠ -1 := fun q => by
  have := congrArg Int64.toInt32 q
  rw [Int32.toInt32_toInt64] at this
  exact nI_ne h this
theorem sr_start (hl : clR I NH NY NE NR) (hc : mc I NH NY NE NR) (hr : sr I NY s f) (h31 : 32 ≤ s) (hs : s < 181) {i e y h : Nat} (hi : lof f = some i) (b : Int32) (he : e < NE) (hy : y < NY) (hh : h < NH) :
    sr (ldU (rwU (ab_u I s 1 (I s 1 ||| ((1 : Int32) <<< (nI i &&& 31)))) s i (nI e) (nI y) b (nI h) (I s 0)) s h (gt I 18 y 0) (gt I 18 y 1)) NY s (fst f i (nI e).toInt64 (nI y).toInt64 (nI h).toInt64 b.toInt64) := by
  have ⟨_, i2, i3, _⟩ := fd_some hi
  have hi12 : i < 12 := by omega
  have hrn : rn f i = false := by simpa using i3
  have h8 := hc.2.1
  have h6 := hc.2.2.1
  have h6e := hc.2.2.2.1
  have ⟨v0, v1, v2, v3, v4, v5⟩ := @fst_vi f i (nI e).toInt64 (nI y).toInt64 (nI h).toInt64 b.toInt64
  have hoi := @fst_oi f i (nI e).toInt64 (nI y).toInt64 (nI h).toInt64 b.toInt64
  have rn' : rn (fst f i (nI e).toInt64 (nI y).toInt64 (nI h).toInt64 b.toInt64) i = true := by
    unfold rn
    rw [v0]
    have := n_ne (show e < 2 ^ 31 by omega)
    simp [this]
  refine sr_inst hr hi12 h6 hoi ?_ ?_ ?_ ?_ ?_ ?_ ?_ ?_ ?_
  · unfold ldU rwU
    exact siI_u (siI_u (siI_u (siI_u (siI_u (siI_u (siI_u (siI_u (siI_u hr.1 (Or.inl (by omega))) (Or.inl (by omega))) (Or.inl (by omega))) (Or.inl (by omega))) (Or.inl (by omega))) (Or.inl (by omega))) (Or.inl (by omega))) (Or.inl (by omega))) (Or.inl (by omega))
  · unfold ldU rwU
    simp (disch := omega) only [u_e, u_r, u_k]
  · unfold ldU rwU
    simp (disch := omega) only [u_e, u_r, u_k]
    rw [hr.2.2.1, sets_or _ hi12]
    refine sets_congr (fun j hj => ?_)
    by_cases q : j = i
    · rw [q, rn']; simp
    · rw [oi_rn hoi q]; simp [q]
  · intro j hj hne w hw6
    unfold gi ldU rwU
    simp (disch := omega) only [u_e, u_r, u_k]
  · intro _
    rw [v0, v1, v2, v3, v4, v5]
    unfold gi ldU rwU
    simp (disch := omega) only [u_e, u_r, u_k, Int32.toInt32_toInt64, true_and]
    exact ⟨rfl, hr.2.1⟩
  · unfold ldU rwU
    simp (disch := omega) only [u_e, u_r, u_k]
  · unfold ldU rwU
    simp (disch := omega) only [u_e, u_r, u_k]
  · unfold ldU rwU
    simp (disch := omega) only [u_e, u_r, u_k]
  · intro k hk w hw2
    have e202 : (ldU (rwU (ab_u I s 1 (I s 1 ||| ((1 : Int32) <<< (nI i &&& 31)))) s i (nI e) (nI y) b (nI h) (I s 0)) s h (gt I 18 y 0) (gt I 18 y 1)) 204 = I 204 := by
      unfold ldU rwU
      simp (disch := omega) only [u_e, u_r, u_k]
    have eh : ho (fst f i (nI e).toInt64 (nI y).toInt64 (nI h).toInt64 b.toInt64) i = h := by
      unfold ho
      rw [v2, nv_n (by omega)]
    have ey : ty (fst f i (nI e).toInt64 (nI y).toInt64 (nI h).toInt64 b.toInt64) i = y := by
      unfold ty
      rw [v1, nv_n (by omega)]
    rw [lod_I e202, lod_upd hoi hi12, rn', hrn, eh, ey]
    simp only [Bool.false_eq_true, false_and, if_false, true_and]
    have g0 := hr.2.2.2.2.2.1 k hk w hw2
    have gt0 := hl.2.2.2.2.1 y hy w (by omega)
    rw [← g0, ← gt0]
    unfold ldU rwU gl
    by_cases q : h = k
    · rw [if_pos q, ← q]
      match w, hw2 with
      | 0, _ =>
        simp (disch := omega) only [u_e, u_r, u_k]
        grind
      | 1, _ =>
        simp (disch := omega) only [u_e, u_r, u_k]
        grind
    · rw [if_neg q]
      simp (disch := omega) only [u_e, u_r, u_k]
      grind
/-- a notice -/
theorem sr_notice (hc : mc I NH NY NE NR) (hr : sr I NY s f) (h31 : 32 ≤ s) (hs : s < 181) {i : Nat} (hi : i < 12) (v : Int32) : sr (ab_u I (s + 1 + 1) (i * 6 + 4) v) NY s (fu f (14 + 6 * i + 4) v.toInt64) := by
  have h : oi i f (fu f (14 + 6 * i + 4) v.toInt64) := oi_fu (oi_refl i f) (by omega)
  have er : ∀ j, rn (fu f (14 + 6 * i + 4) v.toInt64) j = rn f j := fun j => by
    unfold rn vi
    rw [fu_n (by omega)]
  have ev : ∀ w, w < 6 → w ≠ 4 → vi (fu f (14 + 6 * i + 4) v.toInt64) i w = vi f i w := fun w h1 h2 => fu_n (by omega)
  refine sr_inst hr hi hc.2.2.1 h ?_ ?_ ?_ ?_ ?_ ?_ ?_ ?_ ?_
  · exact siI_u hr.1 (Or.inl (by omega))
  · simp (disch := omega) only [u_e, u_r, u_k]
  · simp (disch := omega) only [u_e, u_r, u_k]
    rw [hr.2.2.1]
    exact sets_congr (fun j _ => (er j).symm)
  · intro j hj hne w hw6
    unfold gi
    simp (disch := omega) only [u_e, u_r, u_k]
  · intro q
    rw [er] at q
    have w := hr.2.2.2.1 i hi q
    have e4 : vi (fu f (14 + 6 * i + 4) v.toInt64) i 4 = v.toInt64 := fu_e
    rw [ev 0 (by omega) (by omega), ev 1 (by omega) (by omega), ev 2 (by omega) (by omega), ev 3 (by omega) (by omega), ev 5 (by omega) (by omega), e4, Int32.toInt32_toInt64]
    unfold gi at w ⊢
    simp (disch := omega) only [u_e, u_r, u_k]
    exact ⟨w.1, w.2.1, w.2.2.1, w.2.2.2.1, trivial, w.2.2.2.2.2⟩
  · simp (disch := omega) only [u_e, u_r, u_k]
  · simp (disch := omega) only [u_e, u_r, u_k]
  · simp (disch := omega) only [u_e, u_r, u_k]
  · intro k hk w hw2
    have e202 : (ab_u I (s + 1 + 1) (i * 6 + 4) v) 204 = I 204 := by
      simp (disch := omega) only [u_e, u_r, u_k]
    rw [lod_I e202]
    unfold gl
    simp (disch := omega) only [u_e, u_r, u_k]
    have g0 := hr.2.2.2.2.2.1 k hk w hw2
    unfold gl at g0
    rw [g0]
    unfold lod
    refine sm_congr (fun j hj => ?_)
    rw [er]
    unfold ho ty vi
    rw [fu_n (by omega), fu_n (by omega)]
end KE
