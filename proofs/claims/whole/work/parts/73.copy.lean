/-! ===== situations copied ===== -/
section CP
variable {I I' : Nat → Nat → Int32} {J J' : Nat → Nat → Int64} {x : Nat} {NH NY NE NR s d : Nat} {f g : Nat → Int64}
/-- rows that agree as far as they reach -/
def ag (f g : Nat → Int64) : Prop := ∀ k, k < 116 → g k = f k
theorem ag_vi (h : ag f g) {i w : Nat} (hi : i < 12) (hw : w < 6) : vi g i w = vi f i w := h _ (by omega)
theorem ag_rn (h : ag f g) {i : Nat} (hi : i < 12) : rn g i = rn f i := by unfold rn; rw [ag_vi h hi (by omega)]
theorem ag_vq (h : ag f g) {r w : Nat} (hr : r < 10) (hw : w < 3) : vq g r w = vq f r w := h _ (by omega)
theorem ag_bq (h : ag f g) {r : Nat} (hr : r < 10) : bq g r = bq f r := by unfold bq; rw [ag_vq h hr (by omega)]
theorem ag_nq (h : ag f g) : nq g = nq f := by unfold nq; rw [h 1 (by omega)]
theorem ag_lod (h : ag f g) (k w : Nat) : lod I g k w = lod I f k w := by
  unfold lod
  refine sm_congr (fun i hi => ?_)
  rw [ag_rn h hi]
  unfold ho ty
  rw [ag_vi h hi (by omega), ag_vi h hi (by omega)]
theorem sr_ag (h : ag f g) (hq : isn (f 1) 11) (h6 : NY ≤ 6) (hr : sr I NY s f) : sr I NY s g := by
  have h10 : nq f < 11 := hq.2
  refine ⟨hr.1, ?_, ?_, fun j h12 hj => ?_, fun y hy => ?_, fun k hk w hw => ?_, ?_, fun r hr1 w hw => ?_⟩
  · rw [hr.2.1]
    unfold clk
    rw [h 0 (by omega)]
  · rw [hr.2.2.1]
    exact sets_congr (fun j hj => (ag_rn h hj).symm)
  · rw [ag_rn h h12] at hj
    rw [ag_vi h h12 (by omega), ag_vi h h12 (by omega), ag_vi h h12 (by omega), ag_vi h h12 (by omega), ag_vi h h12 (by omega), ag_vi h h12 (by omega)]
    exact hr.2.2.2.1 j h12 hj
  · rw [h (2 + y) (by omega)]
    exact hr.2.2.2.2.1 y hy
  · rw [ag_lod h]
    exact hr.2.2.2.2.2.1 k hk w hw
  · rw [ag_nq h]
    exact hr.2.2.2.2.2.2.1
  · rw [ag_nq h] at hr1 ⊢
    rw [rk_congr (c := bq f) (fun k hk => ag_bq h (by omega)) hr1, ag_vq h (by omega) hw]
    exact hr.2.2.2.2.2.2.2 r hr1 w hw
theorem wff_ag (h : ag f g) (h6 : NY ≤ 6) (hw : wff I NH NY NE f) : wff I NH NY NE g := by
  obtain ⟨w1, w2, w3, w4, w5, w6, w7⟩ := hw
  have h10 : nq f < 11 := w2.2
  refine ⟨by rw [h 0 (by omega)]; exact w1, by rw [h 1 (by omega)]; exact w2, fun i hi hr => ?_, fun i hi hr => ?_, fun y hy => by rw [h (2 + y) (by omega)]; exact w5 y hy, fun r hr => ?_, fun k hk w hw2 => ?_⟩
  · rw [ag_rn h hi] at hr
    have q := w3 i hi hr
    unfold wfi at q ⊢
    rw [ag_vi h hi (by omega), ag_vi h hi (by omega), ag_vi h hi (by omega), ag_vi h hi (by omega), ag_vi h hi (by omega), ag_vi h hi (by omega)]
    exact q
  · rw [ag_rn h hi] at hr
    have q := w4 i hi hr
    unfold mbd at q ⊢
    rw [ag_vi h hi (by omega)]; exact q
  · rw [ag_nq h] at hr
    rw [ag_vq h (by omega) (by omega), ag_vq h (by omega) (by omega), ag_vq h (by omega) (by omega), ag_bq h (by omega)]
    exact w6 r hr
  · unfold fre
    rw [ag_lod h]
    exact w7 k hk w hw2
/-- a situation and its row -/
def RS (I : Nat → Nat → Int32) (J : Nat → Nat → Int64) (NH NY NE s : Nat) (f : Nat → Int64) : Prop := sr I NY s f ∧ wff I NH NY NE f ∧ spR J s f ∧ nv (f 0) ≤ 9999
theorem RS_ag (h : ag f g) (h6 : NY ≤ 6) (hr : RS I J NH NY NE s f) : RS I J NH NY NE s g := by
  obtain ⟨a, b, c, e⟩ := hr
  refine ⟨sr_ag h b.2.1 h6 a, wff_ag h h6 b, fun k hk => ?_, ?_⟩
  · rw [h (8 + k) (by omega)]; exact c k hk
  · rw [h 0 (by omega)]; exact e
theorem RS_sam (hr : RS I J NH NY NE s f) (h1 : sam s (s + 10) I I') (h2 : sam 201 207 I I') (h3 : J' (s + 9) = J (s + 9)) : RS I' J' NH NY NE s f := by
  obtain ⟨a, b, c, e⟩ := hr
  refine ⟨sr_sam a h1 (h2 204 (by omega) (by omega)), wff_sam b h2, fun k hk => ?_, e⟩
  rw [h3]; exact c k hk
theorem tb_copyE {t u R C : Nat} (h : tb t R C) (hu : tb u R C) (h1 : u ≠ t) (h2 : u ≠ t + 1) (h3 : u + 1 ≠ t) : ∃ I', dd_X10_copyFrom t u (S0, I, J, x) = some ((), (S0, I', J, x)) ∧ (∀ r, r ≠ t → r ≠ t + 1 → I' r = I r) ∧ (∀ b, b < R * C → I' (t + 1) b = I (u + 1) b) ∧ I' t 3 = I u 3 ∧ (∀ k, k ≠ 3 → I' t k = I t k) := by
  refine ⟨_, tb_copy h hu, fun r hr1 hr2 => ?_, fun b hb => ?_, ?_, fun k hk => ?_⟩
  · rw [u_r hr1, ro_off _ _ hr2]
  · rw [u_r (by omega), ro_at, if_pos hb]
  · rw [u_e, ro_off _ _ h2]
  · rw [u_k hk, ro_off _ _ (by omega)]
theorem si_copy (hd : siT d) (hs : siT s) (hds : d + 10 ≤ s ∨ s + 10 ≤ d) (hI : siI I d) :
    ∃ I', dd_X8_copyFrom d s (S0, I, J, x) = some ((), (S0, I', ab_cp J (s + 9) 0 (d + 9) 0 6, x)) ∧ onl d I I' ∧ siI I' d ∧ I' d 0 = I s 0 ∧ I' d 1 = I s 1 ∧ I' (d + 3) 3 = I (s + 3) 3 ∧
      (∀ j, j < 12 → ∀ w, w < 6 → gi I' d j w = gi I s j w) ∧ (∀ j, j < 10 → ∀ w, w < 3 → gq I' d j w = gq I s j w) ∧ (∀ y, y < 6 → gp I' d y = gp I s y) ∧ (∀ h, h < 8 → ∀ w, w < 2 → gl I' d h w = gl I s h w) := by
  unfold dd_X8_copyFrom
  rw [fI_X8_0 hs.1, ob_s, pI_X8_0 hd.1, ob_s, fI_X8_1 hs.1, ob_s, pI_X8_1 hd.1, ob_s, fR_X8_2 hd.1, ob_s, fR_X8_2 hs.1, ob_s, rc_X10 hd.2.1.1, ob_s]
  have e0 : ab_u I d 0 (I s 0) s = I s := u_r (by omega)
  rw [e0]
  have z0 : ∀ r, r ≠ d → ab_u (ab_u I d 0 (I s 0)) d 1 (I s 1) r = I r := fun r hr => by rw [u_r hr, u_r hr]
  have z1 : ab_u (ab_u I d 0 (I s 0)) d 1 (I s 1) d 0 = I s 0 := by rw [u_k (by omega), u_e]
  have z2 : ab_u (ab_u I d 0 (I s 0)) d 1 (I s 1) d 1 = I s 1 := u_e
  generalize ab_u (ab_u I d 0 (I s 0)) d 1 (I s 1) = I0 at z0 z1 z2 ⊢
  obtain ⟨I1, c1, a1, a2, a3, a4⟩ := @tb_copyE I0 J x (d + 1) (s + 1) 12 6 hd.2.1 hs.2.1 (by omega) (by omega) (by omega)
  rw [c1, ob_s, fR_X8_3 hd.1, ob_s, fR_X8_3 hs.1, ob_s, rc_X10 hd.2.2.1.1, ob_s]
  obtain ⟨I2, c2, b1, b2, b3, b4⟩ := @tb_copyE I1 J x (d + 3) (s + 3) 10 3 hd.2.2.1 hs.2.2.1 (by omega) (by omega) (by omega)
  rw [c2, ob_s, fR_X8_4 hd.1, ob_s, fR_X8_4 hs.1, ob_s, rc_X10 hd.2.2.2.1.1, ob_s]
  obtain ⟨I3, c3, d1, d2, d3, d4⟩ := @tb_copyE I2 J x (d + 5) (s + 5) 6 1 hd.2.2.2.1 hs.2.2.2.1 (by omega) (by omega) (by omega)
  rw [c3, ob_s, fR_X8_5 hd.1, ob_s, fR_X8_5 hs.1, ob_s, rc_X10 hd.2.2.2.2.1.1, ob_s]
  obtain ⟨I4, c4, e1, e2, e3, e4⟩ := @tb_copyE I3 J x (d + 7) (s + 7) 8 2 hd.2.2.2.2.1 hs.2.2.2.2.1 (by omega) (by omega) (by omega)
  have eL : (if nI 6 < nI 6 then nI 6 else nI 6) = nI 6 := by split <;> rfl
  rw [c4, ob_s, fR_X8_6 hs.1, ob_s, fR_X8_6 hd.1, ob_s, ob_s, op_len hd.2.2.2.2.2, ob_s, ob_s, op_len hs.2.2.2.2.2, ob_s, eL, op_cpJ (sp := 0) (dp := 0) hs.2.2.2.2.2 hd.2.2.2.2.2 (a := 0) (b := 0) rfl rfl rfl (by omega) (by omega) (by omega) (by omega), ob_s]
  have back : ∀ r, r < d ∨ d + 10 ≤ r → I4 r = I r := fun r hr => by
    rw [e1 r (by omega) (by omega), d1 r (by omega) (by omega), b1 r (by omega) (by omega), a1 r (by omega) (by omega), z0 r (by omega)]
  refine ⟨I4, rfl, back, ?_, ?_, ?_, ?_, fun j hj w hw => ?_, fun j hj w hw => ?_, fun y hy => ?_, fun h hh w hw => ?_⟩
  · have q := hI
    unfold siI tI at q ⊢
    rw [e1 (d + 1) (by omega) (by omega), d1 (d + 1) (by omega) (by omega), b1 (d + 1) (by omega) (by omega), a4 0 (by omega), a4 1 (by omega), z0 (d + 1) (by omega),
      e1 (d + 3) (by omega) (by omega), d1 (d + 3) (by omega) (by omega), b4 0 (by omega), b4 1 (by omega), a1 (d + 3) (by omega) (by omega), z0 (d + 3) (by omega),
      e1 (d + 5) (by omega) (by omega), d4 0 (by omega), d4 1 (by omega), b1 (d + 5) (by omega) (by omega), a1 (d + 5) (by omega) (by omega), z0 (d + 5) (by omega),
      e4 0 (by omega), e4 1 (by omega), d1 (d + 7) (by omega) (by omega), b1 (d + 7) (by omega) (by omega), a1 (d + 7) (by omega) (by omega), z0 (d + 7) (by omega)]
    exact q
  · rw [e1 d (by omega) (by omega), d1 d (by omega) (by omega), b1 d (by omega) (by omega), a1 d (by omega) (by omega), z1]
  · rw [e1 d (by omega) (by omega), d1 d (by omega) (by omega), b1 d (by omega) (by omega), a1 d (by omega) (by omega), z2]
  · rw [e1 (d + 3) (by omega) (by omega), d1 (d + 3) (by omega) (by omega), b3, a1 (s + 3) (by omega) (by omega), z0 (s + 3) (by omega)]
  · unfold gi
    rw [e1 (d + 1 + 1) (by omega) (by omega), d1 (d + 1 + 1) (by omega) (by omega), b1 (d + 1 + 1) (by omega) (by omega), a2 _ (by omega), z0 (s + 1 + 1) (by omega)]
  · unfold gq
    rw [e1 (d + 3 + 1) (by omega) (by omega), d1 (d + 3 + 1) (by omega) (by omega), b2 _ (by omega), a1 (s + 3 + 1) (by omega) (by omega), z0 (s + 3 + 1) (by omega)]
  · unfold gp
    rw [e1 (d + 5 + 1) (by omega) (by omega), d2 _ (by omega), b1 (s + 5 + 1) (by omega) (by omega), a1 (s + 5 + 1) (by omega) (by omega), z0 (s + 5 + 1) (by omega)]
  · unfold gl
    rw [e2 _ (by omega), d1 (s + 7 + 1) (by omega) (by omega), b1 (s + 7 + 1) (by omega) (by omega), a1 (s + 7 + 1) (by omega) (by omega), z0 (s + 7 + 1) (by omega)]
/-- a copy stands for the same row -/
theorem RS_copy (hd : siT d) (hs : siT s) (hds : d + 10 ≤ s ∨ s + 10 ≤ d) (hI : siI I d) (h31 : 32 ≤ d) (hd2 : d < 166) (h6 : NY ≤ 6) (hr : RS I J NH NY NE s f) :
    ∃ I' J', dd_X8_copyFrom d s (S0, I, J, x) = some ((), (S0, I', J', x)) ∧ onl d I I' ∧ siI I' d ∧ (∀ r, r ≠ d + 9 → J' r = J r) ∧ RS I' J' NH NY NE d f := by
  obtain ⟨I', c, o, q, k0, k1, k2, k3, k4, k5, k6⟩ := @si_copy I J x s d hd hs hds hI
  refine ⟨I', _, c, o, q, fun r hr => ?_, ?_⟩
  · funext k
    unfold ab_cp
    rw [if_neg (fun w => hr w.1)]
  · obtain ⟨a, b, p, e⟩ := hr
    have h10 : nq f < 11 := b.2.1.2
    refine ⟨⟨q, k0.trans a.2.1, k1.trans a.2.2.1, fun i hi hrn => ?_, fun y hy => (k5 y (by omega)).trans (a.2.2.2.2.1 y hy), fun h hh w hw => ?_, k2.trans a.2.2.2.2.2.2.1, fun r hr1 w hw => ?_⟩, wff_sam b (fun r h1 h2 => o r (by omega)), fun k hk => ?_, e⟩
    · rw [k3 i hi 0 (by omega), k3 i hi 1 (by omega), k3 i hi 2 (by omega), k3 i hi 3 (by omega), k3 i hi 4 (by omega), k3 i hi 5 (by omega)]
      exact a.2.2.2.1 i hi hrn
    · rw [k6 h hh w hw, lod_I (o 204 (by omega))]
      exact a.2.2.2.2.2.1 h hh w hw
    · have hlt := rk_lt (bq f) hr1
      rw [k4 _ (by omega) w hw]
      exact a.2.2.2.2.2.2.2 r hr1 w hw
    · show ab_cp J (s + 9) 0 (d + 9) 0 6 (d + 9) k = _
      unfold ab_cp
      rw [if_pos ⟨rfl, by omega, by omega⟩, Nat.zero_add, Nat.sub_zero]
      exact p k hk
end CP
