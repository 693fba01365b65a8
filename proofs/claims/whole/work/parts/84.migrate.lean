/-! ===== migrations ===== -/
theorem sn_chg {g g' : Nat → Nat} {j : Nat} : ∀ {n : Nat}, j < n → (∀ k, k < n → k ≠ j → g' k = g k) → sn g' n + g j = sn g n + g' j
  | 0, h, _ => by omega
  | n + 1, h, hz => by
    rw [sn, sn]
    by_cases e : j = n
    · subst e
      rw [sn_congr (g := g') (g' := g) (fun k hk => hz k (by omega) (by omega))]
      omega
    · have ih := sn_chg (g := g) (g' := g') (j := j) (n := n) (by omega) (fun k hk hn => hz k (by omega) hn)
      rw [hz n (by omega) (fun q => e q.symm)]
      omega
section MI
variable {I I' I0 I1 I2 I3 I4 : Nat → Nat → Int32} {J J' J1 J2 J3 J4 : Nat → Nat → Int64} {x : Nat} {NH NY NE NR s d u tp u' tp' : Nat} {f g f' : Nat → Int64} {H S H' : Nat → Nat → Int64} {b : Nat → Bool}
theorem kp_30 (h : kp I I') (o : ∀ r, r ≠ 31 → I2 r = I' r) : kp I I2 := by
  obtain ⟨k1, k2, k3, k4, k5, k6, k7, k8, k9⟩ := h
  refine ⟨fun r q1 q2 q3 => (o r q2).trans (k1 r q1 q2 q3), ?_, ?_, ?_, ?_, fun r q1 q2 => (o r (by omega)).trans (k6 r q1 q2), (o 219 (by omega)).trans k7, fun q q1 q2 => by rw [o 200 (by omega)]; exact k8 q q1 q2, by rw [o 213 (by omega)]; exact k9.1, by rw [o 214 (by omega)]; exact k9.2⟩
  · unfold siI tI at k2 ⊢
    rw [o (42 + 1) (by omega), o (42 + 3) (by omega), o (42 + 5) (by omega), o (42 + 7) (by omega)]
    exact k2
  · unfold bI tI at k3 ⊢
    rw [o 176 (by omega), o 178 (by omega)]
    exact k3
  · unfold tI at k4 ⊢
    rw [o 183 (by omega)]
    exact k4
  · unfold tP tI at k5 ⊢
    rw [o 198 (by omega), o 193 (by omega)]
    exact k5
theorem kp_hi (h : kp I I') (o : ∀ r, r ≠ 210 → r ≠ 215 → I2 r = I' r) : kp I I2 := by
  obtain ⟨k1, k2, k3, k4, k5, k6, k7, k8, k9⟩ := h
  refine ⟨fun r q1 q2 q3 => (o r (by omega) (by omega)).trans (k1 r q1 q2 q3), ?_, ?_, ?_, ?_, fun r q1 q2 => (o r (by omega) (by omega)).trans (k6 r q1 q2), (o 219 (by omega) (by omega)).trans k7, fun q q1 q2 => by rw [o 200 (by omega) (by omega)]; exact k8 q q1 q2, by rw [o 213 (by omega) (by omega)]; exact k9.1, by rw [o 214 (by omega) (by omega)]; exact k9.2⟩
  · unfold siI tI at k2 ⊢
    rw [o (42 + 1) (by omega) (by omega), o (42 + 3) (by omega) (by omega), o (42 + 5) (by omega) (by omega), o (42 + 7) (by omega) (by omega)]
    exact k2
  · unfold bI tI at k3 ⊢
    rw [o 176 (by omega) (by omega), o 178 (by omega) (by omega)]
    exact k3
  · unfold tI at k4 ⊢
    rw [o 183 (by omega) (by omega)]
    exact k4
  · unfold tP tI at k5 ⊢
    rw [o 198 (by omega) (by omega), o 193 (by omega) (by omega)]
    exact k5
theorem stF_I (h : I' 204 = I 204) {i : Nat} {e : Nat → Int32} : ∀ k, stF I' f i e k = stF I f i e k
  | 0 => rfl
  | k + 1 => by
    have eo : ∀ z, opn I' f i z = opn I f i z := fun z => by unfold opn mt; rw [h]
    rw [stF, stF, stF_I h k, eo]
theorem cstF_I (h : I' 204 = I 204) (h2 : I' 208 = I 208) {i n : Nat} : cstF I' f i n = cstF I f i n := by
  unfold cstF
  rw [stF_I h, h2]
theorem q_migrationCost (hi : Inv I J) (cd : Nat → Option Int32) (hcd : cd 0 = some 1) (a : Int32) : Cal (dd_X11_migrationCost 0 a) (dd_X12_migrationCost 200 a) cd I J x := by
  obtain ⟨NH, NY, NE, NR, f, u, tp, H, b, S, w, c, m, rd⟩ := id hi
  obtain ⟨hc, hg, hl, n, n8, d1, d2, d3⟩ := id w
  have h6 := hc.2.2.1
  have hs : sr I NY 32 (J 201) := by rw [m.1]; exact c.1.1
  have ni := c_inst (x := x) hs a
  rw [m.1] at ni
  cases ha : inR f a with
  | false =>
    refine Cal_thr (v := 0) hi 0 1 hcd (by decide) ?_ (fun J' hJ => ?_)
    · unfold dd_X11_migrationCost
      rw [c_rc, ob_s, ni, ob_s, ha]
      rfl
    · unfold dd_X12_migrationCost
      rw [m_rc, ob_s, m_noInstance, ob_s, hJ 201 (by omega), m.1, ha]
      rfl
  | true =>
    have hb := (Bool.and_eq_true _ _).mp ha
    obtain ⟨i, hi12, rfl⟩ := inN_ex hb.1 (by omega)
    rw [nI_clamp (by omega)] at hb
    have hrn := hb.2
    have wi := c.1.2.1.2.2.1 i hi12 hrn
    obtain ⟨I1, e1, o1⟩ := @c_moveCost I J x NH NY NE NR 32 f si31 hl h6 c.1.1 c.1.2.1.2.2.1 i n hi12 hrn n8 d1 d3
    refine ⟨.inl (cstF I f i n), I1, J, x, ?_, by omega, fun J' hJ => ?_⟩
    · unfold dd_X11_migrationCost
      rw [c_rc, ob_s, ni, ob_s, ha]
      simp only [if_true]
      rw [c_R2, ob_s, c_R1, ob_s, e_rc, ob_s, e1, ob_s]
    · have hf : J' 201 = f := (hJ 201 (by omega)).trans m.1
      have hj : J' = jr J' f := by
        have := jr_id J'
        rw [hf] at this
        exact this.symm
      have th0 : ∀ r, r ≠ 200 → r ≠ 31 → th I1 0 r = I r := fun r a b => (th_off _ a).trans (o1 r b)
      obtain ⟨I2, e2, o2⟩ := @m_costOf (th I1 0) J' x NY f h6 i n hi12 wi.2.1.2 (isn_32 wi.2.1) n8 (by rw [th0 207 (by omega) (by omega)]; exact d2) (by rw [th0 30 (by omega) (by omega), th0 208 (by omega) (by omega)]; exact d3)
      rw [← hj, cstF_I (th0 204 (by omega) (by omega)) (th0 208 (by omega) (by omega))] at e2
      refine ⟨cstF I f i n, I2, J', ?_, Inv_kp hi (kp_hi (kp_th (kp_30 (kp_refl c.2.1) o1) 0) (fun r hr _ => o2 r (by omega))) (fun r _ _ q => hJ r q), rfl, by rw [o2 200 (by omega), th_at], rfl⟩
      unfold dd_X12_migrationCost
      rw [m_rc, ob_s, m_noInstance, ob_s, hf, ha]
      simp only [Bool.not_true, Bool.false_eq_true, if_false, if_true]
      rw [m_rc, ob_s, e2, ob_s]
      rfl
/-- an instance on another host -/
def moF (f : Nat → Int64) (i h : Nat) : Nat → Int64 := fu f (14 + 6 * i + 2) (nI h).toInt64
def mvF (f : Nat → Int64) (i h : Nat) (c : Int32) : Nat → Int64 := moF (fu f (8 + en f i) (f (8 + en f i) + c.toInt64)) i h
theorem sr_move (hl : clR I NH NY NE NR) (hc : mc I NH NY NE NR) (hw : wfs NH NY NE f) (hr : sr I NY s f) (h31 : 32 ≤ s) (hs : s < 166) {i h : Nat} (hi : i < 12) (hrn : rn f i = true) (hh : h < NH) :
    sr (ldU (ab_u (ldU I s (ho f i) (-1 * gt I 18 (ty f i) 0) (-1 * gt I 18 (ty f i) 1)) (s + 1 + 1) (i * 6 + 3) (nI h)) s h (gt I 18 (ty f i) 0) (gt I 18 (ty f i) 1)) NY s (moF f i h) := by
  have h8 := hc.2.1
  have ho8 : ho f i < 8 := by have := ho_lt hw hi hrn; omega
  have hty := ty_lt hw hi hrn
  have hoi : oi i f (moF f i h) := oi_fu (oi_refl i f) (by omega)
  have ev : ∀ w, w < 6 → w ≠ 2 → vi (moF f i h) i w = vi f i w := fun w h1 h2 => fu_n (by omega)
  have ev2 : vi (moF f i h) i 2 = (nI h).toInt64 := fu_e
  have er : ∀ j, rn (moF f i h) j = rn f j := fun j => by
    unfold rn vi moF
    rw [fu_n (by omega)]
  refine sr_inst hr hi hc.2.2.1 hoi ?_ ?_ ?_ ?_ ?_ ?_ ?_ ?_ ?_
  · exact siI_u (siI_u (siI_u (siI_u (siI_u hr.1 (Or.inl (by omega))) (Or.inl (by omega))) (Or.inl (by omega))) (Or.inl (by omega))) (Or.inl (by omega))
  · unfold ldU
    simp (disch := omega) only [u_e, u_r, u_k]
  · unfold ldU
    simp (disch := omega) only [u_e, u_r, u_k]
    rw [hr.2.2.1]
    exact sets_congr (fun j _ => (er j).symm)
  · intro j hj hne w hw6
    unfold gi ldU
    simp (disch := omega) only [u_e, u_r, u_k]
  · intro _
    have q := hr.2.2.2.1 i hi hrn
    rw [ev 0 (by omega) (by omega), ev 1 (by omega) (by omega), ev2, ev 3 (by omega) (by omega), ev 4 (by omega) (by omega), ev 5 (by omega) (by omega), Int32.toInt32_toInt64]
    unfold gi at q ⊢
    unfold ldU
    simp (disch := omega) only [u_e, u_r, u_k]
    exact ⟨q.1, q.2.1, q.2.2.1, trivial, q.2.2.2.2.1, q.2.2.2.2.2⟩
  · unfold ldU
    simp (disch := omega) only [u_e, u_r, u_k]
  · unfold ldU
    simp (disch := omega) only [u_e, u_r, u_k]
  · unfold ldU
    simp (disch := omega) only [u_e, u_r, u_k]
  · intro k hk w hw2
    have e202 : (ldU (ab_u (ldU I s (ho f i) (-1 * gt I 18 (ty f i) 0) (-1 * gt I 18 (ty f i) 1)) (s + 1 + 1) (i * 6 + 3) (nI h)) s h (gt I 18 (ty f i) 0) (gt I 18 (ty f i) 1)) 204 = I 204 := by
      unfold ldU
      simp (disch := omega) only [u_e, u_r, u_k]
    have eh : ho (moF f i h) i = h := by unfold ho; rw [ev2, nv_n (by omega)]
    have ey : ty (moF f i h) i = ty f i := by unfold ty; rw [ev 1 (by omega) (by omega)]
    rw [lod_I e202, lod_upd hoi hi, er, eh, ey, hrn]
    simp only [true_and]
    have g0 := hr.2.2.2.2.2.1 k hk w hw2
    have gt0 := hl.2.2.2.2.1 (ty f i) hty w (by omega)
    rw [← g0, ← gt0]
    unfold ldU gl
    by_cases q1 : ho f i = k
    · by_cases q2 : h = k
      · rw [if_pos q1, if_pos q2, q1, q2]
        match w, hw2 with
        | 0, _ =>
          simp (disch := omega) only [u_e, u_r, u_k]
          grind
        | 1, _ =>
          simp (disch := omega) only [u_e, u_r, u_k]
          grind
      · rw [if_pos q1, if_neg q2, q1]
        match w, hw2 with
        | 0, _ =>
          simp (disch := omega) only [u_e, u_r, u_k]
          grind
        | 1, _ =>
          simp (disch := omega) only [u_e, u_r, u_k]
          grind
    · by_cases q2 : h = k
      · rw [if_neg q1, if_pos q2, q2]
        match w, hw2 with
        | 0, _ =>
          simp (disch := omega) only [u_e, u_r, u_k]
          grind
        | 1, _ =>
          simp (disch := omega) only [u_e, u_r, u_k]
          grind
      · rw [if_neg q1, if_neg q2]
        simp (disch := omega) only [u_e, u_r, u_k]
        grind
theorem wff_move (hg : mrg I NH NY NE NR) (hc : mc I NH NY NE NR) (hw : wff I NH NY NE f) {i h : Nat} (hi : i < 12) (hrn : rn f i = true) (hh : h < NH) (hne : ho f i ≠ h) (hfit : mfit I f (ty f i) h = true) : wff I NH NY NE (moF f i h) := by
  obtain ⟨w1, w2, w3, w4, w5, w6, w7⟩ := hw
  have h8 := hc.2.1
  have h6 := hc.2.2.1
  have hty := ty_lt w3 hi hrn
  have hoi : oi i f (moF f i h) := oi_fu (oi_refl i f) (by omega)
  have ev : ∀ w, w < 6 → w ≠ 2 → vi (moF f i h) i w = vi f i w := fun w h1 h2 => fu_n (by omega)
  have ev2 : vi (moF f i h) i 2 = (nI h).toInt64 := fu_e
  have er : ∀ j, rn (moF f i h) j = rn f j := fun j => by
    unfold rn vi moF
    rw [fu_n (by omega)]
  have eh : ho (moF f i h) i = h := by unfold ho; rw [ev2, nv_n (by omega)]
  have ey : ty (moF f i h) i = ty f i := by unfold ty; rw [ev 1 (by omega) (by omega)]
  have ⟨e1, e2, e3⟩ := oi_rq hoi hi
  have w3' : wfs NH NY NE (moF f i h) := fun j hj hr => by
    rw [er] at hr
    have w := w3 j hj hr
    by_cases q : j = i
    · unfold wfi at w ⊢
      rw [q] at w ⊢
      rw [ev 0 (by omega) (by omega), ev 1 (by omega) (by omega), ev2, ev 3 (by omega) (by omega), ev 4 (by omega) (by omega), ev 5 (by omega) (by omega)]
      exact ⟨w.1, w.2.1, isn_n hh (by omega), w.2.2.2⟩
    · unfold wfi at w ⊢
      rw [oi_vi hoi q (by omega), oi_vi hoi q (by omega), oi_vi hoi q (by omega), oi_vi hoi q (by omega), oi_vi hoi q (by omega), oi_vi hoi q (by omega)]
      exact w
  refine ⟨by rw [hoi 0 (by omega)]; exact w1, by rw [hoi 1 (by omega)]; exact w2, w3', fun j hj hr => ?_, fun z hz => ?_, fun r hr => ?_, fun k hk w hw2 => ?_⟩
  · rw [er] at hr
    have q := w4 j hj hr
    have em : mbd (moF f i h) j = mbd f j := by
      unfold mbd vi moF
      rw [fu_n (by omega)]
    rw [em]; exact q
  · rw [hoi (2 + z) (by omega)]; exact w5 z hz
  · rw [e1] at hr
    rw [e2, e3]; exact w6 r hr
  · have q := w7 k hk w hw2
    rw [fit_iff hg w3 hk hw2] at q
    rw [fit_iff hg w3' hk hw2]
    have hup : loN I (moF f i h) k w + (if rn f i = true ∧ ho f i = k then tN I (ty f i) w else 0) = loN I f k w + (if rn (moF f i h) i = true ∧ ho (moF f i h) i = k then tN I (ty (moF f i h) i) w else 0) := by
      unfold loN
      refine sn_chg (g := fun j => if rn f j = true ∧ ho f j = k then tN I (ty f j) w else 0) (g' := fun j => if rn (moF f i h) j = true ∧ ho (moF f i h) j = k then tN I (ty (moF f i h) j) w else 0) hi (fun j hj hne => ?_)
      rw [oi_rn hoi hne]
      unfold ho ty
      rw [oi_vi hoi hne (by omega), oi_vi hoi hne (by omega)]
    rw [er, eh, ey, hrn] at hup
    simp only [true_and] at hup
    by_cases q2 : h = k
    · subst q2
      rw [if_pos rfl, if_neg hne] at hup
      have ef := fre_int hg w3 hh hw2
      have et := tN_is hg hty hw2
      have h0 := mfit_at hfit hw2
      rw [Int32.lt_iff_toInt_lt, ef, et.1, nI_toInt (by omega)] at h0
      omega
    · rw [if_neg q2] at hup
      omega
/-- a move as the class makes it -/
theorem c_moveTo (hl : clR I NH NY NE NR) (hc : mc I NH NY NE NR) (hg : mrg I NH NY NE NR) (hr : RS I J NH NY NE 32 f) {i h n : Nat} (hi : i < 12) (hrn : rn f i = true) (hh : h < NH) (hne : ho f i ≠ h) (hfit : mfit I f (ty f i) h = true) (hn8 : n ≤ 800) (hn : I 29 1 = nI n) (hd : cdN (I 30) (I 208) n) :
    ∃ I' J', dd_X8_moveTo 32 18 (nI i) (nI h) (S0, I, J, x) = some (cstF I f i n, (S0, I', J', x)) ∧ row31 I I' ∧ (∀ r, r ≠ 41 → J' r = J r) ∧ RS I' J' NH NY NE 32 (mvF f i h (cstF I f i n)) := by
  have h8 := hc.2.1
  have h6 := hc.2.2.1
  have h6e := hc.2.2.2.1
  obtain ⟨hs, hw, hp, hk9⟩ := hr
  obtain ⟨I1, e1, o1⟩ := @c_moveCost I J x NH NY NE NR 32 f si31 hl h6 hs hw.2.2.1 i n hi hrn hn8 hn hd
  have wi := hw.2.2.1 i hi hrn
  have s1 : sam 201 207 I I1 := fun r a c => o1 r (by omega)
  have hl1 : clR I1 NH NY NE NR := clR_30 hl (fun r a c => o1 r (by omega)) s1
  have hs1 : sr I1 NY 32 f := sr_sam hs (fun r a c => o1 r (by omega)) (o1 204 (by omega))
  have q := hs1.2.2.2.1 i hi hrn
  have hty : ty f i < 6 := by have := wi.2.1.2; unfold ty; omega
  have hho : ho f i < 8 := by have := wi.2.2.1.2; unfold ho; omega
  have hen : en f i < 6 := by have := wi.1.2; unfold en; omega
  have ey : gi I1 32 i 1 = nI (ty f i) := q.2.1.trans (isn_32 wi.2.1)
  have eh : gi I1 32 i 3 = nI (ho f i) := q.2.2.2.1.trans (isn_32 wi.2.2.1)
  have ee : gi I1 32 i 0 = nI (en f i) := q.1.trans (isn_32 wi.1)
  have l1 := @si_load I1 J x 32 si31 (by omega) hs1.1 hl1.1 i (ty f i) (ho f i) hi ey hty eh hho (-1)
  have sv := sr_move hl1 (mc_sam hc s1) hw.2.2.1 hs1 (by omega) (by omega) hi hrn hh
  have ol2 : onl 32 I1 (ldU I1 32 (ho f i) (-1 * gt I1 18 (ty f i) 0) (-1 * gt I1 18 (ty f i) 1)) := onl_ldU _ 0 _ _ (onl_refl 32 I1)
  have ol3 : onl 32 I1 (ab_u (ldU I1 32 (ho f i) (-1 * gt I1 18 (ty f i) 0) (-1 * gt I1 18 (ty f i) 1)) (32 + 1 + 1) (i * 6 + 3) (nI h)) := onl_u ol2 (by omega) (by omega)
  have ol4 : onl 32 I1 (ldU (ab_u (ldU I1 32 (ho f i) (-1 * gt I1 18 (ty f i) 0) (-1 * gt I1 18 (ty f i) 1)) (32 + 1 + 1) (i * 6 + 3) (nI h)) 32 h (gt I1 18 (ty f i) 0) (gt I1 18 (ty f i) 1)) := onl_ldU _ 0 _ _ ol3
  have g2 : siI (ldU I1 32 (ho f i) (-1 * gt I1 18 (ty f i) 0) (-1 * gt I1 18 (ty f i) 1)) 32 := siI_u (siI_u hs1.1 (Or.inl (by omega))) (Or.inl (by omega))
  have g3 : siI (ab_u (ldU I1 32 (ho f i) (-1 * gt I1 18 (ty f i) 0) (-1 * gt I1 18 (ty f i) 1)) (32 + 1 + 1) (i * 6 + 3) (nI h)) 32 := siI_u g2 (Or.inl (by omega))
  have cl3 := clI_onl hl1.1 ol3 (by omega)
  have ey3 : gi (ab_u (ldU I1 32 (ho f i) (-1 * gt I1 18 (ty f i) 0) (-1 * gt I1 18 (ty f i) 1)) (32 + 1 + 1) (i * 6 + 3) (nI h)) 32 i 1 = nI (ty f i) := by
    rw [← ey]
    unfold gi ldU
    simp (disch := omega) only [u_e, u_r, u_k]
  have eh3 : gi (ab_u (ldU I1 32 (ho f i) (-1 * gt I1 18 (ty f i) 0) (-1 * gt I1 18 (ty f i) 1)) (32 + 1 + 1) (i * 6 + 3) (nI h)) 32 i 3 = nI h := u_e
  have l3 := fun (J2 : Nat → Nat → Int64) => @si_load _ J2 x 32 si31 (by omega) g3 cl3 i (ty f i) h hi ey3 hty eh3 (by omega) 1
  have gt3 : ∀ w, gt (ab_u (ldU I1 32 (ho f i) (-1 * gt I1 18 (ty f i) 0) (-1 * gt I1 18 (ty f i) 1)) (32 + 1 + 1) (i * 6 + 3) (nI h)) 18 (ty f i) w = gt I1 18 (ty f i) w := fun w => by
    unfold gt
    rw [ol3 _ (by omega)]
  rw [gt3, gt3, Int32.one_mul, Int32.one_mul] at l3
  have set2 : dd_X10_set 33 (nI i) 3 (nI h) (S0, ldU I1 32 (ho f i) (-1 * gt I1 18 (ty f i) 0) (-1 * gt I1 18 (ty f i) 1), J, x) = some ((), (S0, ab_u (ldU I1 32 (ho f i) (-1 * gt I1 18 (ty f i) 0) (-1 * gt I1 18 (ty f i) 1)) (32 + 1 + 1) (i * 6 + 3) (nI h), J, x)) := tb_set (t := 33) _ si31.2.1 g2.1 rfl (li_n 3) hi (by omega)
  have ee4 : gi (ldU (ab_u (ldU I1 32 (ho f i) (-1 * gt I1 18 (ty f i) 0) (-1 * gt I1 18 (ty f i) 1)) (32 + 1 + 1) (i * 6 + 3) (nI h)) 32 h (gt I1 18 (ty f i) 0) (gt I1 18 (ty f i) 1)) 32 i 0 = nI (en f i) := by
    rw [← ee]
    unfold gi ldU
    simp (disch := omega) only [u_e, u_r, u_k]
  generalize ab_u (ldU I1 32 (ho f i) (-1 * gt I1 18 (ty f i) 0) (-1 * gt I1 18 (ty f i) 1)) (32 + 1 + 1) (i * 6 + 3) (nI h) = I3 at sv ol4 l3 set2 ee4
  generalize ldU I1 32 (ho f i) (-1 * gt I1 18 (ty f i) 0) (-1 * gt I1 18 (ty f i) 1) = I2 at l1 set2
  generalize ldU I3 32 h (gt I1 18 (ty f i) 0) (gt I1 18 (ty f i) 1) = I4 at sv ol4 l3 ee4
  have ro : row31 I I4 := fun r a c => (ol4 r (by omega)).trans (o1 r a)
  have s4 : sam 201 207 I I4 := fun r a c => ro r (by omega) (by omega)
  have osp1 : osp f (fu f (8 + en f i) (f (8 + en f i) + (cstF I f i n).toInt64)) := fun k hk => fu_n (by omega)
  have om : osp (moF f i h) (mvF f i h (cstF I f i n)) := fun k hk => by
    unfold mvF moF fu
    by_cases e : k = 14 + 6 * i + 2
    · rw [if_pos e, if_pos e]
    · rw [if_neg e, if_neg e]
      show (if k = 8 + en f i then _ else f k) = f k
      rw [if_neg (by omega)]
  have wm := wff_move hg hc hw hi hrn hh hne hfit
  refine ⟨I4, ab_u J 41 (en f i) (J 41 (en f i) + (cstF I f i n).toInt64), ?_, ro, fun r hr => u_r hr, sr_osp sv (by omega) (by omega) h6 om, wff_sam (wff_osp hg h6 wm om) s4, fun e he => ?_, ?_⟩
  · unfold dd_X8_moveTo
    rw [e_rc, ob_s, e1, ob_s, e_rc, ob_s, l1, ob_s, e_R2, ob_s, t_32, ob_s, set2, ob_s, e_rc, ob_s, l3, ob_s, e_R2, ob_s, t_32, ob_s, si_get (s := 32) si31 sv.1 rfl li_0 hi (by omega), ob_s, e_rc, ob_s, ee4, si_charge si31 _ rfl hen, ob_s]
  · show ab_u J 41 (en f i) (J 41 (en f i) + (cstF I f i n).toInt64) 41 e = _
    have e1 : mvF f i h (cstF I f i n) (8 + e) = fu f (8 + en f i) (f (8 + en f i) + (cstF I f i n).toInt64) (8 + e) := fu_n (by omega)
    have hpe := hp (en f i) hen
    have hpe' : J 41 (en f i) = f (8 + en f i) := hpe
    rw [e1]
    by_cases q : e = en f i
    · rw [q, u_e, fu_e, hpe']
    · rw [u_k q, fu_n (by omega)]; exact hp e he
  · have e0 : mvF f i h (cstF I f i n) 0 = f 0 := by
      unfold mvF moF
      rw [fu_n (by omega), fu_n (by omega)]
    rw [e0]; exact hk9
/-- a move as the model makes it -/
theorem m_moves (h6 : NY ≤ 6) (h6e : NE ≤ 6) (hw : wfs NH NY NE f) {i h n : Nat} (hi : i < 12) (hrn : rn f i = true) (hn8 : n ≤ 800) (hn : I 207 0 = nI n) (hd : cdN (I 30) (I 208) n) :
    ∃ I', dd_X12_moves 200 (nI i) (nI h) (S0, I, jr J f, x) = some (cstF I f i n, (S0, I', jr J (mvF f i h (cstF I f i n)), x)) ∧ ∀ r, r ≠ 210 → I' r = I r := by
  have wi := hw i hi hrn
  have hen : en f i < 6 := by have := wi.1.2; unfold en; omega
  obtain ⟨I2, e2, o2⟩ := @m_costOf I J x NY f h6 i n hi wi.2.1.2 (isn_32 wi.2.1) hn8 hn hd
  refine ⟨I2, ?_, o2⟩
  have e8 : (8 : Int32) + nI (en f i) = nI (8 + en f i) := li_add 8 _
  have een : (vi f i 0).toInt32 = nI (en f i) := isn_32 wi.1
  unfold dd_X12_moves
  rw [m_rc, ob_s, e2, ob_s, m_R1, ob_s, m_rc, ob_s, m_its0J hi, ob_s, een, e8, m_nowJ (by omega), ob_s, m_snowJ _ (by omega), ob_s, m_R1, ob_s, m_of2, ob_s, m_snowJ _ (by omega), ob_s]
  rfl
end MI
