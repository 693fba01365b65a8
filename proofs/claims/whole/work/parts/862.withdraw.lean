/-! ===== withdraw ===== -/
theorem fil_erase {α : Type} (p : α → Bool) : ∀ (l : List α) (r : Nat), (∀ a, l[r]? = some a → p a = false) → (l.eraseIdx r).filter p = l.filter p
  | [], _, _ => rfl
  | a :: l, 0, h => by
    have := h a rfl
    simp [List.eraseIdx, this]
  | a :: l, r + 1, h => by
    have ih := fil_erase p l r (fun c hc => h c (by simpa using hc))
    simp only [List.eraseIdx, List.filter_cons, ih]
section WD
variable {I I' I0 I1 I2 I3 I4 : Nat → Nat → Int32} {J J' J1 J2 J3 J4 : Nat → Nat → Int64} {x : Nat} {NH NY NE NR s d u tp u' tp' : Nat} {f g f' : Nat → Int64} {H S H' : Nat → Nat → Int64} {b : Nat → Bool}
/-- the waiting requests, in the order of their making -/
def rqT (f : Nat → Int64) (r : Nat) : Int64 × Int64 × Int64 := (vq f r 0, vq f r 1, vq f r 2)
def Lq (f : Nat → Int64) : List (Int64 × Int64 × Int64) := (List.range (nq f)).map (rqT f)
theorem Lq_len : (Lq f).length = nq f := by simp [Lq]
theorem Lq_at {r : Nat} (h : r < nq f) : (Lq f)[r]? = some (rqT f r) := by simp [Lq, h]
theorem Lq_drop (hq : isn (f 1) 11) {r : Nat} (hr : r < nq f) : Lq (dropF f r) = (Lq f).eraseIdx r := by
  have e1 := (dropF_nq hq r).1
  apply List.ext_getElem?
  intro k
  rw [List.getElem?_eraseIdx]
  by_cases hk : k < nq f - 1
  · have ev : rqT (dropF f r) k = rqT f (sk r k) := by
      unfold rqT
      rw [dropF_vq hk (by omega), dropF_vq hk (by omega), dropF_vq hk (by omega)]
    rw [Lq_at (by omega), ev]
    unfold sk
    by_cases h : k < r
    · rw [if_pos h, if_pos h, Lq_at (by omega)]
    · rw [if_neg h, if_neg h, Lq_at (by omega)]
  · have n1 : (Lq (dropF f r))[k]? = none := List.getElem?_eq_none (by rw [Lq_len, e1]; omega)
    rw [n1]
    by_cases h : k < r
    · omega
    · rw [if_neg h]
      exact (List.getElem?_eq_none (by rw [Lq_len]; omega)).symm
/-- not of tenant e -/
def nte (e : Nat) (t : Int64 × Int64 × Int64) : Bool := !decide (nv t.1 = e)
/-- what remains without tenant e -/
def wdR (e : Nat) (f g : Nat → Int64) : Prop := (∀ k, k < 86 → k ≠ 1 → g k = f k) ∧ (Lq g).filter (nte e) = (Lq f).filter (nte e)
theorem wdR_refl (e : Nat) (f : Nat → Int64) : wdR e f f := ⟨fun _ _ _ => rfl, rfl⟩
theorem wdR_trans {e : Nat} (h : wdR e f g) (h' : wdR e g f') : wdR e f f' := ⟨fun k a c => (h'.1 k a c).trans (h.1 k a c), h'.2.trans h.2⟩
theorem wdR_drop {e : Nat} (hq : isn (f 1) 11) {r : Nat} (hr : r < nq f) (he : rqe f r = e) : wdR e f (dropF f r) := by
  refine ⟨fun k a c => dropF_off a c, ?_⟩
  rw [Lq_drop hq hr]
  refine fil_erase _ _ _ (fun t ht => ?_)
  rw [Lq_at hr] at ht
  cases ht
  show (!decide (nv (vq f r 0) = e)) = false
  have : nv (vq f r 0) = e := he
  simp [this]
theorem wd_self {e : Nat} (h : ∀ r, r < nq g → rqe g r ≠ e) : (Lq g).filter (nte e) = Lq g := by
  apply List.filter_eq_self.mpr
  intro t ht
  unfold Lq at ht
  obtain ⟨r, hr, rfl⟩ := List.mem_map.mp ht
  have hr' : r < nq g := by simpa using hr
  have := h r hr'
  show (!decide (nv (vq g r 0) = e)) = true
  have h2 : ¬ nv (vq g r 0) = e := this
  simp [h2]
/-- rows with the same requests and the same rest -/
def agq (f g : Nat → Int64) : Prop := (∀ k, k < 86 → g k = f k) ∧ ∀ r, r < nq f → ∀ w, w < 3 → vq g r w = vq f r w
theorem wd_agq {e : Nat} (hf : isn (f' 1) 11) (hg : isn (g 1) 11) (h1 : wdR e f f') (h2 : wdR e f g) (n1 : ∀ r, r < nq f' → rqe f' r ≠ e) (n2 : ∀ r, r < nq g → rqe g r ≠ e) : agq f' g := by
  have el : Lq g = Lq f' := by rw [← wd_self n2, ← wd_self n1, h1.2, h2.2]
  have en : nq g = nq f' := by
    have := congrArg List.length el
    rwa [Lq_len, Lq_len] at this
  refine ⟨fun k hk => ?_, fun r hr w hw => ?_⟩
  · by_cases e1 : k = 1
    · rw [e1, hf.1, hg.1]
      have : nv (g 1) = nv (f' 1) := en
      rw [this]
    · rw [h2.1 k hk e1, h1.1 k hk e1]
  · have q1 := Lq_at (f := g) (r := r) (by omega)
    rw [el, Lq_at hr] at q1
    have q2 := Option.some.inj q1
    unfold rqT at q2
    have a0 := congrArg Prod.fst q2
    have a1 := congrArg (fun t => t.2.1) q2
    have a2 := congrArg (fun t => t.2.2) q2
    match w, hw with
    | 0, _ => exact a0.symm
    | 1, _ => exact a1.symm
    | 2, _ => exact a2.symm
theorem agq_vi (h : agq f g) {i w : Nat} (hi : i < 12) (hw : w < 6) : vi g i w = vi f i w := h.1 _ (by omega)
theorem agq_rn (h : agq f g) {i : Nat} (hi : i < 12) : rn g i = rn f i := by unfold rn; rw [agq_vi h hi (by omega)]
theorem agq_nq (h : agq f g) : nq g = nq f := by unfold nq; rw [h.1 1 (by omega)]
theorem agq_bq (h : agq f g) {r : Nat} (hr : r < nq f) : bq g r = bq f r := by unfold bq; rw [h.2 r hr 2 (by omega)]
theorem agq_lod (h : agq f g) (k w : Nat) : lod I g k w = lod I f k w := by
  unfold lod
  refine sm_congr (fun i hi => ?_)
  rw [agq_rn h hi]
  unfold ho ty
  rw [agq_vi h hi (by omega), agq_vi h hi (by omega)]
theorem RS_agq (h : agq f g) (h6 : NY ≤ 6) (hR : RS I J NH NY NE s f) : RS I J NH NY NE s g := by
  obtain ⟨hr, ⟨w1, w2, w3, w4, w5, w6, w7⟩, hp, hk⟩ := hR
  refine ⟨⟨hr.1, ?_, ?_, fun j h12 hj => ?_, fun y hy => ?_, fun k hk w hw => ?_, ?_, fun r hr1 w hw => ?_⟩, ⟨by rw [h.1 0 (by omega)]; exact w1, by rw [h.1 1 (by omega)]; exact w2, fun i hi hr => ?_, fun i hi hr => ?_, fun y hy => by rw [h.1 (2 + y) (by omega)]; exact w5 y hy, fun r hr => ?_, fun k hk w hw2 => ?_⟩, fun e he => by rw [h.1 (8 + e) (by omega)]; exact hp e he, by rw [h.1 0 (by omega)]; exact hk⟩
  · rw [hr.2.1]
    unfold clk
    rw [h.1 0 (by omega)]
  · rw [hr.2.2.1]
    exact sets_congr (fun j hj => (agq_rn h hj).symm)
  · rw [agq_rn h h12] at hj
    rw [agq_vi h h12 (by omega), agq_vi h h12 (by omega), agq_vi h h12 (by omega), agq_vi h h12 (by omega), agq_vi h h12 (by omega), agq_vi h h12 (by omega)]
    exact hr.2.2.2.1 j h12 hj
  · rw [h.1 (2 + y) (by omega)]
    exact hr.2.2.2.2.1 y hy
  · rw [agq_lod h]
    exact hr.2.2.2.2.2.1 k hk w hw
  · rw [agq_nq h]
    exact hr.2.2.2.2.2.2.1
  · rw [agq_nq h] at hr1 ⊢
    rw [rk_congr (c := bq f) (fun k hk => agq_bq h hk) hr1, h.2 r hr1 w hw]
    exact hr.2.2.2.2.2.2.2 r hr1 w hw
  · rw [agq_rn h hi] at hr
    have q := w3 i hi hr
    unfold wfi at q ⊢
    rw [agq_vi h hi (by omega), agq_vi h hi (by omega), agq_vi h hi (by omega), agq_vi h hi (by omega), agq_vi h hi (by omega), agq_vi h hi (by omega)]
    exact q
  · rw [agq_rn h hi] at hr
    have q := w4 i hi hr
    unfold mbd at q ⊢
    rw [agq_vi h hi (by omega)]; exact q
  · rw [agq_nq h] at hr
    rw [h.2 r hr 0 (by omega), h.2 r hr 1 (by omega), h.2 r hr 2 (by omega), agq_bq h hr]
    exact w6 r hr
  · unfold fre
    rw [agq_lod h]
    exact w7 k hk w hw2
/-- the model's loop -/
theorem m_wdL (hg : mrg I NH NY NE NR) (h6 : NY ≤ 6) (h6e : NE ≤ 6) {e : Nat} (he : e < NE) : ∀ (k n : Nat) (a : Int32) (f : Nat → Int64), k ≤ nq f → k < n → wff I NH NY NE f → (∀ r, k ≤ r → r < nq f → rqe f r ≠ e) →
    ∃ g, bb_X12_withdraw_26 n 200 (nI e) a (nI k - 1) (S0, I, jr J f, x) = some (a + nI (nq f) - nI (nq g), (S0, I, jr J g, x)) ∧ wff I NH NY NE g ∧ wdR e f g ∧ (∀ r, r < nq g → rqe g r ≠ e) := by
  intro k
  induction k with
  | zero =>
    intro n a f h1 h2 hw hn
    obtain ⟨n, rfl⟩ : ∃ q, n = q + 1 := ⟨n - 1, by omega⟩
    refine ⟨f, ?_, hw, wdR_refl e f, fun r hr => hn r (Nat.zero_le _) hr⟩
    rw [bb_X12_withdraw_26, if_pos (by decide)]
    exact congrArg (fun z => some (z, (S0, I, jr J f, x))) (by grind)
  | succ k ih =>
    intro n a f h1 h2 hw hn
    obtain ⟨n, rfl⟩ : ∃ q, n = q + 1 := ⟨n - 1, by omega⟩
    have h10 : nq f < 11 := hw.2.1.2
    have q := hw.2.2.2.2.2.1 k (by omega)
    have a0 : (86 : Int32) + 3 * nI k = nI (86 + 3 * k + 0) := by rw [li_n 86, li_n 3, li_mul, li_add]; rfl
    have lg : (lg_cmp (vq f k 0) (nI e).toInt64 = 0) = (rqe f k = e) := by
      have hl : rqe f k < NE := q.1.2
      rw [lc_eq, q.1.1, j_inj, li_eq (by unfold rqe at hl; omega) (by omega)]
      rfl
    have em : nI k + -1 = nI k - 1 := by grind
    rw [nI_pred, bb_X12_withdraw_26, if_neg (li_pos (by omega)), m_R1, ob_s, a0]
    show ∃ g, ((ab_ldJ (S0, I, jr J f, x) 201 (nI (86 + 3 * k + 0))).bind _) = _ ∧ _
    rw [m_vqJ (show k < 10 by omega) (by omega), ob_s]
    simp only [lg]
    by_cases hz : rqe f k = e
    · have ⟨e1, e2⟩ := dropF_nq hw.2.1 k
      have wd := wff_drop hg h6 hw (r := k) (by omega)
      obtain ⟨g, g1, g2, g3, g4⟩ := ih n (a + 1) (dropF f k) (by omega) (by omega) wd (fun r hr1 hr2 => by
        rw [e1] at hr2
        have ev : rqe (dropF f k) r = rqe f (sk k r) := by unfold rqe; rw [dropF_vq hr2 (by omega)]
        rw [ev]
        unfold sk
        rw [if_neg (by omega)]
        exact hn (r + 1) (by omega) (by omega))
      refine ⟨g, ?_, g2, wdR_trans (wdR_drop hw.2.1 (by omega) hz) g3, g4⟩
      rw [if_pos hz, m_rc, ob_s, m_drop hw.2.1 (by omega), ob_s, bb_X12_withdraw_55, em, g1, e1]
      refine congrArg (fun z => some (z, (S0, I, jr J g, x))) ?_
      have : nI (nq f) = nI (nq f - 1) + 1 := by rw [nI_1, show nq f - 1 + 1 = nq f by omega]
      rw [this]
      grind
    · obtain ⟨g, g1, g2, g3, g4⟩ := ih n a f (by omega) (by omega) hw (fun r hr1 hr2 => by
        by_cases q2 : r = k
        · rw [q2]; exact hz
        · exact hn r (by omega) hr2)
      refine ⟨g, ?_, g2, g3, g4⟩
      rw [if_neg hz, bb_X12_withdraw_55, em, g1]
/-- the class's loop -/
theorem c_wdL (h6e : NE ≤ 6) {e m : Nat} (he : e < NE) : ∀ (k n : Nat) (I : Nat → Nat → Int32) (f : Nat → Int64), k ≤ nq f → k < n → mc I NH NY NE NR → mrg I NH NY NE NR → wff I NH NY NE f → sr I NY 32 f → (∀ q, k ≤ q → q < nq f → gq I 32 q 0 ≠ nI e) →
    ∃ I' g, bb_X8_dropRequests_12 n 32 (nI e) (nI m) (nI k - 1) (S0, I, J, x) = some (nI m - nI (nq g), (S0, I', J, x)) ∧ onl 32 I I' ∧ sr I' NY 32 g ∧ wff I' NH NY NE g ∧ wdR e f g ∧ (∀ r, r < nq g → rqe g r ≠ e) := by
  intro k
  induction k with
  | zero =>
    intro n I f h1 h2 hc hg hw hr hn
    obtain ⟨n, rfl⟩ : ∃ q, n = q + 1 := ⟨n - 1, by omega⟩
    have h10 : nq f < 11 := hw.2.1.2
    have hsz : I (32 + 3) 3 = nI (nq f) := hr.2.2.2.2.2.2.1
    refine ⟨I, f, ?_, onl_refl 32 I, hr, hw, wdR_refl e f, fun r hrn hz => ?_⟩
    · rw [bb_X8_dropRequests_12, if_pos (by decide), fR_X8_3 si31.1, ob_s, fI_X10_3 si31.2.2.1.1, ob_s, hsz]
    · have q := hr.2.2.2.2.2.2.2 r hrn 0 (by omega)
      have w := hw.2.2.2.2.2.1 r hrn
      have hlt := rk_lt (bq f) hrn
      refine hn _ (Nat.zero_le _) hlt (q.trans ((isn_32 w.1).trans ?_))
      exact congrArg nI hz
  | succ k ih =>
    intro n I f h1 h2 hc hg hw hr hn
    obtain ⟨n, rfl⟩ : ∃ q, n = q + 1 := ⟨n - 1, by omega⟩
    have h10 : nq f < 11 := hw.2.1.2
    have h6 := hc.2.2.1
    have hsz : I (32 + 3) 3 = nI (nq f) := hr.2.2.2.2.2.2.1
    have em : nI k + -1 = nI k - 1 := by grind
    obtain ⟨r, hrn, hrk⟩ := rk_surj (bq f) (show k < nq f by omega)
    have w := hw.2.2.2.2.2.1 r hrn
    have q := hr.2.2.2.2.2.2.2 r hrn 0 (by omega)
    rw [hrk] at q
    have eq0 : gq I 32 k 0 = nI (rqe f r) := q.trans (isn_32 w.1)
    rw [nI_pred, bb_X8_dropRequests_12, if_neg (li_pos (by omega)), fR_X8_3 si31.1, ob_s, rc_X10 si31.2.2.1.1, ob_s, si_getq si31 hr.1 rfl li_0 (by omega) (by omega), ob_s]
    by_cases hz : gq I 32 k 0 = nI e
    · have hze : rqe f r = e := by
        have hl : rqe f r < NE := w.1.2
        have := eq0.symm.trans hz
        rwa [li_eq (by omega) (by omega)] at this
      have sd := sr_drop hw.2.1 (by omega) (by omega) h6 hr hrn
      rw [hrk] at sd
      have od : onl 32 I (rmU I 32 (nq f) k) := onl_rmU _ _ (onl_refl 32 I)
      have s2 : sam 201 207 I (rmU I 32 (nq f) k) := fun z a c => od z (by omega)
      have ⟨e1, e2⟩ := dropF_nq hw.2.1 r
      obtain ⟨I', g, g1, g2, g3, g4, g5, g6⟩ := ih n (rmU I 32 (nq f) k) (dropF f r) (by omega) (by omega) (mc_sam hc s2) (mrg_sam hg s2) (wff_sam (wff_drop hg h6 hw hrn) s2) sd (fun q hq1 hq2 => by
        rw [e1] at hq2
        have ec : gq (rmU I 32 (nq f) k) 32 q 0 = gq I 32 (q + 1) 0 := by
          unfold gq rmU
          rw [u_r (by omega)]
          unfold ab_cp
          rw [if_pos ⟨rfl, by omega, by omega⟩]
          exact congrArg (I (32 + 3 + 1)) (by omega)
        rw [ec]
        exact hn (q + 1) (by omega) (by omega))
      refine ⟨I', g, ?_, onl_trans od g2, g3, g4, wdR_trans (wdR_drop hw.2.1 hrn hze) g5, g6⟩
      rw [if_pos hz, fR_X8_3 si31.1, ob_s, rc_X10 si31.2.2.1.1, ob_s, tb_remove si31.2.2.1 hr.1.2.1 hsz rfl (show k < nq f by omega) (by omega), ob_s, bb_X8_dropRequests_37, em]
      exact g1
    · obtain ⟨I', g, g1, g2, g3, g4, g5, g6⟩ := ih n I f (by omega) (by omega) hc hg hw hr (fun q hq1 hq2 => by
        by_cases q2 : q = k
        · rw [q2]; exact hz
        · exact hn q (by omega) hq2)
      refine ⟨I', g, ?_, g2, g3, g4, g5, g6⟩
      rw [if_neg hz, bb_X8_dropRequests_37, em]
      exact g1
theorem q_withdraw (hi : Inv I J) (cd : Nat → Option Int32) (hcd : cd 0 = some 1) (a : Int32) : Cal (dd_X11_withdraw 0 a) (dd_X12_withdraw 200 a) cd I J x := by
  obtain ⟨NH, NY, NE, NR, f, u, tp, H, b, S, w, c, m, rd⟩ := id hi
  obtain ⟨hc, hg, hl, hm⟩ := id w
  have h8 := hc.2.1
  have h6 := hc.2.2.1
  have h6e := hc.2.2.2.1
  have hq11 : isn (f 1) 11 := c.1.2.1.2.1
  have hq : nq f < 11 := hq11.2
  have nr0 := c_need (I := I) (J := J) (x := x) cl17.2.2.2.1.1 hl.2.1.2.2.1 (show NE < 1000 by omega) a
  cases ha : inN a NE with
  | false =>
    refine Cal_thr (v := 0) hi 0 1 hcd (by decide) ?_ (fun J' hJ => ?_)
    · unfold dd_X11_withdraw
      rw [c_R1, ob_s, d_R2, ob_s, c_rc, ob_s, nr0, ob_s, ha]
      rfl
    · unfold dd_X12_withdraw
      rw [m_rc, ob_s, m_noTenant hc, ob_s, ha]
      rfl
  | true =>
    obtain ⟨e, he, rfl⟩ := inN_ex ha (by omega)
    obtain ⟨I1, J1, e1, c1, q1, k1⟩ := @c_remember I J x NH NY NE u tp f H S b h6 c
    have s1 : sam 201 207 I I1 := fun r a b => q1 r (by omega)
    have hsz : I1 (32 + 3) 3 = nI (nq f) := c1.1.1.2.2.2.2.2.2.1
    obtain ⟨I2, g, g1, ol, g3, g4, g5, g6⟩ := @c_wdL J1 x NH NY NE NR h6e e (nq f) he (nq f) ab_fu I1 f (Nat.le_refl _) (ab_fu_big (by omega)) (mc_sam hc s1) (mrg_sam hg s1) c1.1.2.1 c1.1.1 (fun q a b => by omega)
    have o12 : sam 201 207 I I2 := fun r a b => (ol r (by omega)).trans (s1 r a b)
    refine ⟨.inl (nI (nq f) - nI (nq g)), I2, J1, x, ?_, by omega, fun J' hJ => ?_⟩
    · unfold dd_X11_withdraw
      rw [c_R1, ob_s, d_R2, ob_s, c_rc, ob_s, nr0, ob_s, ha]
      simp only [if_true]
      rw [c_R4, ob_s, c_R2, ob_s, rc_X4 okH, ob_s, e1, ob_s, c_R2, ob_s, e_rc, ob_s]
      unfold dd_X8_dropRequests
      rw [fR_X8_3 si31.1, ob_s, fI_X10_3 si31.2.2.1.1, ob_s, hsz, g1, ob_s]
    · have jm : ∀ r, 155 ≤ r → r ≠ 220 → J' r = J r := fun r a b => (hJ r b).trans (k1 r (by omega))
      have ee2 : ∀ r, 155 ≤ r → I2 r = I r := fun r a => (ol r (by omega)).trans (q1 r (by omega))
      have hf : J' 201 = f := (jm 201 (by omega) (by omega)).trans m.1
      obtain ⟨I3, J3, e3, hf3, m3, s3, j3, o3, n3, zz3, l3⟩ := @m_kept I I2 J J' x NH NY NE u tp f H S b c m (fun r a _ => ee2 r a) jm
      have s3' : sam 201 207 I I3 := fun r a b => s3 r a (by omega)
      obtain ⟨gm, m1, m2, mm3, m4⟩ := @m_wdL I3 J3 x NH NY NE NR (mrg_sam hg s3') h6 h6e e he (nq f) ab_fu 0 f (Nat.le_refl _) (ab_fu_big (by omega)) (wff_sam c.1.2.1 s3') (fun q a b => by omega)
      have hag : agq g gm := wd_agq g4.2.1 m2.2.1 g5 mm3 g6 m4
      have r2 : RS I2 J1 NH NY NE 32 gm := RS_agq hag h6 ⟨g3, g4, fun k hk => by rw [g5.1 (8 + k) (by omega) (by omega)]; exact c1.1.2.2.1 k hk, by rw [g5.1 0 (by omega) (by omega)]; exact c.1.2.2.2⟩
      refine ⟨nI (nq f) - nI (nq g), I3, jr J3 gm, ?_, Inv_chg w rd c1 q1 (row31_onl ol) (fun _ _ => rfl) r2 m3 (fun r hr => (j3 r hr).trans (hJ r (by omega))) o3 n3 (fun _ _ _ => rfl) (fun _ _ _ => rfl), ?_, zz3, rfl⟩
      · have en : (f 1).toInt32 = nI (nq f) := isn_32 hq11
        have m199 : J3 201 1 = f 1 := by rw [m3.1]
        unfold dd_X12_withdraw
        rw [m_rc, ob_s, m_noTenant (mc_sam hc o12), ob_s, ha]
        simp only [Bool.not_true, Bool.false_eq_true, if_false, if_true]
        rw [m_rc, ob_s, e3, ob_s, m_R1, ob_s, m_n1, ob_s, m199, en]
        rw [← hf3] at m1
        refine m1.trans ?_
        rw [agq_nq hag]
        exact congrArg (fun z => some (z, (S0, I3, jr J3 gm, x))) (by grind)
      · rw [jr_off (by omega), l3]
end WD
