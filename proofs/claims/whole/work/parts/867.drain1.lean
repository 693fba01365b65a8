/-! ===== draining a host: the search, and the model's ===== -/
/-- the first that gives something -/
def fsm {α : Type} (p : Nat → Option α) (j : Nat) : Nat → Option α
  | 0 => none
  | k + 1 => match p j with
    | some a => some a
    | none => fsm p (j + 1) k
def subR (R : Nat → Nat → Nat) (h : Nat) (T : Nat → Nat) : Nat → Nat → Nat := fun k w => if k = h then R k w - T w else R k w
def updN (A : Nat → Nat) (i v : Nat) : Nat → Nat := fun k => if k = i then v else A k
/-- where the instances from 12 - k on can go -/
def drF (on : Nat → Bool) (T : Nat → Nat → Nat) (NH : Nat) : Nat → (Nat → Nat → Nat) → Option (Nat → Nat)
  | 0, _ => some (fun _ => 0)
  | k + 1, R => if on (11 - k) then fsm (fun h => if T (11 - k) 0 ≤ R h 0 ∧ T (11 - k) 1 ≤ R h 1 then (drF on T NH k (subR R h (T (11 - k)))).map (fun A => updN A (11 - k) h) else none) 0 NH else drF on T NH k R
/-- the plan can be carried out, one after the other -/
def vld (on : Nat → Bool) (T : Nat → Nat → Nat) (NH : Nat) : Nat → (Nat → Nat → Nat) → (Nat → Nat) → Prop
  | 0, _, _ => True
  | k + 1, R, A => if on (11 - k) then A (11 - k) < NH ∧ T (11 - k) 0 ≤ R (A (11 - k)) 0 ∧ T (11 - k) 1 ≤ R (A (11 - k)) 1 ∧ vld on T NH k (subR R (A (11 - k)) (T (11 - k))) A else vld on T NH k R A
theorem fsm_some {α : Type} {p : Nat → Option α} {a : α} : ∀ {k j : Nat}, fsm p j k = some a → ∃ h, j ≤ h ∧ h < j + k ∧ p h = some a
  | 0, _, e => by cases e
  | k + 1, j, e => by
    rw [fsm] at e
    cases q : p j with
    | some c =>
      rw [q] at e
      exact ⟨j, Nat.le_refl _, by omega, by rw [q]; exact e⟩
    | none =>
      rw [q] at e
      obtain ⟨h, h1, h2, h3⟩ := fsm_some e
      exact ⟨h, by omega, by omega, h3⟩
theorem vld_congr {on : Nat → Bool} {T : Nat → Nat → Nat} {NH : Nat} {A B : Nat → Nat} : ∀ (k : Nat) (R : Nat → Nat → Nat), k ≤ 12 → (∀ i, 12 - k ≤ i → i < 12 → A i = B i) → vld on T NH k R A → vld on T NH k R B
  | 0, _, _, _, _ => trivial
  | k + 1, R, hk, h, hv => by
    rw [vld] at hv ⊢
    have e := h (11 - k) (by omega) (by omega)
    by_cases ho : on (11 - k) = true
    · rw [if_pos ho] at hv ⊢
      rw [← e]
      exact ⟨hv.1, hv.2.1, hv.2.2.1, vld_congr k _ (by omega) (fun i h1 h2 => h i (by omega) h2) hv.2.2.2⟩
    · rw [if_neg ho] at hv ⊢
      exact vld_congr k _ (by omega) (fun i h1 h2 => h i (by omega) h2) hv
theorem dr_vld {on : Nat → Bool} {T : Nat → Nat → Nat} {NH : Nat} : ∀ (k : Nat) (R : Nat → Nat → Nat) (A : Nat → Nat), k ≤ 12 → drF on T NH k R = some A → vld on T NH k R A
  | 0, _, _, _, _ => trivial
  | k + 1, R, A, hk, e => by
    rw [drF] at e
    rw [vld]
    by_cases ho : on (11 - k) = true
    · rw [if_pos ho] at e ⊢
      obtain ⟨h, h1, h2, h3⟩ := fsm_some e
      by_cases c : T (11 - k) 0 ≤ R h 0 ∧ T (11 - k) 1 ≤ R h 1
      · rw [if_pos c] at h3
        cases q : drF on T NH k (subR R h (T (11 - k))) with
        | none => rw [q] at h3; cases h3
        | some B =>
          rw [q] at h3
          have eA : updN B (11 - k) h = A := by simpa using h3
          have ea : A (11 - k) = h := by rw [← eA]; exact if_pos rfl
          rw [ea]
          refine ⟨by omega, c.1, c.2, vld_congr k _ (by omega) (fun i h1 h2 => ?_) (dr_vld k _ B (by omega) q)⟩
          rw [← eA]
          exact (if_neg (by omega)).symm
      · rw [if_neg c] at h3; cases h3
    · rw [if_neg ho] at e ⊢
      exact dr_vld k R A (by omega) e
section DM
variable {I I' I0 I1 I2 I3 I4 : Nat → Nat → Int32} {J J' J1 J2 J3 J4 : Nat → Nat → Int64} {x : Nat} {NH NY NE NR s d u tp u' tp' : Nat} {f g f' : Nat → Int64} {H S H' : Nat → Nat → Int64} {b : Nat → Bool}
def onB' (f : Nat → Int64) (h i : Nat) : Bool := rn f i && decide (ho f i = h)
def tyT (I : Nat → Nat → Int32) (f : Nat → Int64) (i w : Nat) : Nat := tN I (ty f i) w
/-- the rooms that a row leaves -/
def rmR (I : Nat → Nat → Int32) (g : Nat → Int64) (NH h : Nat) (R : Nat → Nat → Nat) : Prop := ∀ k, k < NH → ∀ w, w < 2 → R k w ≤ 256 ∧ (k ≠ h → fre I g k w = nI (R k w)) ∧ (k = h → R k w = 0)
theorem moF_oi {i h : Nat} : oi i f (moF f i h) := oi_fu (oi_refl i f) (by omega)
theorem moF_rn {i h j : Nat} : rn (moF f i h) j = rn f j := by
  unfold rn vi moF
  rw [fu_n (by omega)]
theorem moF_ty {i h j : Nat} : ty (moF f i h) j = ty f j := by
  unfold ty vi moF
  rw [fu_n (by omega)]
theorem moF_ho {i h : Nat} (hh : h < 2 ^ 31) : ho (moF f i h) i = h := by
  have : vi (moF f i h) i 2 = (nI h).toInt64 := fu_e
  unfold ho
  rw [this, nv_n hh]
theorem moF_hoN {i h j : Nat} (hj : j ≠ i) : ho (moF f i h) j = ho f j := by
  unfold ho
  rw [oi_vi moF_oi hj (by omega)]
theorem wfs_move (hw : wfs NH NY NE f) (h8 : NH ≤ 8) {i h : Nat} (hh : h < NH) : wfs NH NY NE (moF f i h) := fun j hj hr => by
  rw [moF_rn] at hr
  have w := hw j hj hr
  by_cases q : j = i
  · have ev : ∀ w, w < 6 → w ≠ 2 → vi (moF f i h) i w = vi f i w := fun w h1 h2 => fu_n (by omega)
    have ev2 : vi (moF f i h) i 2 = (nI h).toInt64 := fu_e
    unfold wfi at w ⊢
    rw [q] at w ⊢
    rw [ev 0 (by omega) (by omega), ev 1 (by omega) (by omega), ev2, ev 3 (by omega) (by omega), ev 4 (by omega) (by omega), ev 5 (by omega) (by omega)]
    exact ⟨w.1, w.2.1, isn_n hh (by omega), w.2.2.2⟩
  · unfold wfi at w ⊢
    rw [oi_vi moF_oi q (by omega), oi_vi moF_oi q (by omega), oi_vi moF_oi q (by omega), oi_vi moF_oi q (by omega), oi_vi moF_oi q (by omega), oi_vi moF_oi q (by omega)]
    exact w
theorem rm_move (hg : mrg I NH NY NE NR) (h8 : NH ≤ 8) (hw : wfs NH NY NE f) {h i hh : Nat} {R : Nat → Nat → Nat} (hR : rmR I f NH h R) (hi : i < 12) (hrn : rn f i = true) (hho : ho f i = h) (hhN : hh < NH) (hne : hh ≠ h) (t0 : tyT I f i 0 ≤ R hh 0) (t1 : tyT I f i 1 ≤ R hh 1) : rmR I (moF f i hh) NH h (subR R hh (tyT I f i)) := by
  intro k hk w hw2
  have q := hR k hk w hw2
  have hty := ty_lt hw hi hrn
  refine ⟨?_, fun hkh => ?_, fun hkh => ?_⟩
  · unfold subR
    split
    · omega
    · exact q.1
  · have e := lod_upd (I := I) (moF_oi (f := f) (i := i) (h := hh)) hi k w
    rw [moF_rn, moF_ho (by omega), moF_ty, hrn, hho] at e
    simp only [true_and] at e
    rw [if_neg (show ¬ h = k from fun z => hkh z.symm)] at e
    have q2 := q.2.1 hkh
    unfold fre at q2 ⊢
    rw [e]
    unfold subR
    by_cases c : k = hh
    · rw [if_pos c, if_pos c.symm]
      have tq := (tN_is hg hty hw2).1
      have tle : tyT I f i w ≤ R k w := by
        rw [c]
        rcases (show w = 0 ∨ w = 1 by omega) with z | z
        · rw [z]; exact t0
        · rw [z]; exact t1
      have : mh I k w - (lod I f k w + (mt I (ty f i) w - 0)) = (mh I k w - lod I f k w) - mt I (ty f i) w := by grind
      rw [this, q2, tq]
      exact pk_sub tle
    · rw [if_neg c, if_neg (fun z => c z.symm)]
      have : mh I k w - (lod I f k w + (0 - 0)) = mh I k w - lod I f k w := by grind
      rw [this, q2]
  · have := q.2.2 hkh
    unfold subR
    rw [if_neg (by omega)]
    exact this
theorem sh_213 : S0[215]? = some (1, 12, []) := rfl
theorem m_R26 : ab_fR (S0, I, J, x) 12 200 26 = some 215 := fR_X12_26 okM
theorem moF_back {i h hh : Nat} (hv : vi f i 2 = (nI h).toInt64) : moF (moF f i hh) i h = f := by
  funext k
  unfold moF
  by_cases e : k = 14 + 6 * i + 2
  · rw [e, fu_e]; exact hv.symm
  · rw [fu_n e, fu_n e]
/-- the model's search -/
def drM (I : Nat → Nat → Int32) (on : Nat → Bool) (k : Nat) (g : Nat → Int64) (J : Nat → Nat → Int64) (x : Nat) (A : Option (Nat → Nat)) (res : Option (Int32 × ab_Mm)) : Prop :=
  ∃ I', res = some (if A.isSome then 1 else 0, (S0, I', jr J g, x)) ∧ (∀ r, r ≠ 215 → I' r = I r) ∧ (∀ i, i < 12 - k → I' 215 i = I 215 i) ∧ (∀ B, A = some B → ∀ i, 12 - k ≤ i → i < 12 → on i = true → I' 215 i = nI (B i))
theorem m_drains (hc : mc I0 NH NY NE NR) (hg : mrg I0 NH NY NE NR) {h : Nat} (hh : h < NH) {on : Nat → Bool} {T : Nat → Nat → Nat} (hT : ∀ i, i < 12 → on i = true → ∀ w, w < 2 → 1 ≤ T i w) : ∀ (k n : Nat) (I : Nat → Nat → Int32) (g : Nat → Int64) (R : Nat → Nat → Nat), k ≤ 12 → k < n → sam 201 207 I0 I → wfs NH NY NE g → rmR I0 g NH h R → (∀ i, i < 12 → on i = true → rn g i = true ∧ (∀ w, tyT I0 g i w = T i w)) → (∀ i, 12 - k ≤ i → i < 12 → on i = true → vi g i 2 = (nI h).toInt64) →
    drM I on k g J x (drF on T NH k R) (dd_X12_drains n 200 (nI h) (sets on) (nI (12 - k)) (S0, I, jr J g, x)) := by
  have h8 := hc.2.1
  have h6 := hc.2.2.1
  intro k
  induction k with
  | zero =>
    intro n I g R hk hn hI hw hR hon hv
    obtain ⟨n, rfl⟩ : ∃ z, n = z + 1 := ⟨n - 1, by omega⟩
    refine ⟨I, ?_, fun _ _ => rfl, fun _ _ => rfl, fun B _ i h1 h2 => by omega⟩
    show st_X12_drains (dd_X12_drains n) 200 (nI h) (sets on) (nI 12) (S0, I, jr J g, x) = _
    unfold st_X12_drains
    rw [if_pos (show nI 12 = 12 from rfl)]
    rfl
  | succ k ih =>
    intro n I g R hk hn hI hw hR hon hv
    obtain ⟨n, rfl⟩ : ∃ z, n = z + 1 := ⟨n - 1, by omega⟩
    have ei : 12 - (k + 1) = 11 - k := by omega
    have hi : 11 - k < 12 := by omega
    have e1 : nI (11 - k) + 1 = nI (12 - k) := by rw [nI_1, show 11 - k + 1 = 12 - k by omega]
    rw [ei]
    show drM I on (k + 1) g J x (drF on T NH (k + 1) R) (st_X12_drains (dd_X12_drains n) 200 (nI h) (sets on) (nI (11 - k)) (S0, I, jr J g, x))
    unfold st_X12_drains
    rw [if_neg (by rw [li_n 12, li_eq (by omega) (by omega)]; omega), has_sets on hi, ob_s, drF]
    cases ho1 : on (11 - k) with
    | false =>
      simp only [Bool.false_eq_true, if_false, if_true]
      obtain ⟨I', r1, r2, r3, r4⟩ := ih n I g R (by omega) (by omega) hI hw hR hon (fun i a c => hv i (by omega) c)
      refine ⟨I', ?_, r2, fun i hi2 => r3 i (by omega), fun B hB i h1 h2 h3 => ?_⟩
      · rw [m_rc, ob_s, e1, r1, ob_s]
        exact b1_ok _ _ _
      · by_cases q : i = 11 - k
        · rw [q, ho1] at h3; cases h3
        · exact r4 B hB i (by omega) h2 h3
    | true =>
      simp only [if_true]
      have hrn := (hon _ hi ho1).1
      have hTe := (hon _ hi ho1).2
      have wi := hw _ hi hrn
      have hv0 := hv (11 - k) (by omega) hi ho1
      have hho : ho g (11 - k) = h := by
        unfold ho
        rw [hv0, nv_n (by omega)]
      have hty : ty g (11 - k) < NY := wi.2.1.2
      have ety : (vi g (11 - k) 1).toInt32 = nI (ty g (11 - k)) := isn_32 wi.2.1
      rw [if_neg n10, m_rc, ob_s, m_its1J hi, ob_s, ety]
      -- the hosts, one after the other
      have loop : ∀ (q m j : Nat) (I1 : Nat → Nat → Int32), j + q = NH → q < m → (∀ r, r ≠ 215 → I1 r = I r) → (∀ i, i < 11 - k → I1 215 i = I 215 i) →
          ∃ I', bb_X12_drains_37 (dd_X12_drains n) m 200 (nI h) (sets on) (nI (11 - k)) (nI (ty g (11 - k))) (nI j) (S0, I1, jr J g, x) = some (if (fsm (fun h => if T (11 - k) 0 ≤ R h 0 ∧ T (11 - k) 1 ≤ R h 1 then (drF on T NH k (subR R h (T (11 - k)))).map (fun A => updN A (11 - k) h) else none) j q).isSome then 1 else 0, (S0, I', jr J g, x)) ∧ (∀ r, r ≠ 215 → I' r = I r) ∧ (∀ i, i < 11 - k → I' 215 i = I 215 i) ∧ (∀ B, fsm (fun h => if T (11 - k) 0 ≤ R h 0 ∧ T (11 - k) 1 ≤ R h 1 then (drF on T NH k (subR R h (T (11 - k)))).map (fun A => updN A (11 - k) h) else none) j q = some B → ∀ i, 11 - k ≤ i → i < 12 → on i = true → I' 215 i = nI (B i)) := by
        intro q
        induction q with
        | zero =>
          intro m j I1 h1 h2 o1 o2
          obtain ⟨m, rfl⟩ : ∃ z, m = z + 1 := ⟨m - 1, by omega⟩
          have e0 : I1 202 0 = nI NH := by rw [o1 202 (by omega), hI 202 (by omega) (by omega)]; exact hc.1.1
          refine ⟨I1, ?_, o1, o2, fun B hB => by cases hB⟩
          rw [bb_X12_drains_37, m_R2, ob_s, m_to0, ob_s, e0, if_pos (by rw [li_le (by omega) (by omega)]; omega)]
          rfl
        | succ q ihq =>
          intro m j I1 h1 h2 o1 o2
          obtain ⟨m, rfl⟩ : ∃ z, m = z + 1 := ⟨m - 1, by omega⟩
          have e0 : I1 202 0 = nI NH := by rw [o1 202 (by omega), hI 202 (by omega) (by omega)]; exact hc.1.1
          have hjN : j < NH := by omega
          have s1 : sam 201 207 I0 I1 := fun r a c => (o1 r (by omega)).trans (hI r a c)
          rw [bb_X12_drains_37, m_R2, ob_s, m_to0, ob_s, e0, if_neg (by rw [li_le (by omega) (by omega)]; omega), fsm]
          by_cases hjh : j = h
          · have hz := (hR j hjN 0 (by omega)).2.2 hjh
            have hT1 := hT _ hi ho1 0 (by omega)
            rw [if_pos (by rw [hjh]), if_neg (show ¬ (T (11 - k) 0 ≤ R j 0 ∧ T (11 - k) 1 ≤ R j 1) from fun w => by have := w.1; omega), bb_X12_drains_116, nI_1]
            exact ihq m (j + 1) I1 (by omega) (by omega) o1 o2
          · rw [if_neg (by rw [li_eq (by omega) (by omega)]; exact hjh)]
            have ft : dd_X12_fits 200 (nI (ty g (11 - k))) (nI j) (S0, I1, jr J g, x) = some (if mfit I0 g (ty g (11 - k)) j then 1 else 0, (S0, I1, jr J g, x)) := by
              have q := @m_fits I1 (jr J g) x NH NY NE (ty g (11 - k)) j hw h8 h6 (by omega) (by omega)
              rw [jr_at, mfit_I (s1 203 (by omega) (by omega)) (s1 204 (by omega) (by omega))] at q
              exact q
            have q0 := hR j hjN 0 (by omega)
            have q1 := hR j hjN 1 (by omega)
            have tq0 := tN_is hg hty (show 0 < 2 by omega)
            have tq1 := tN_is hg hty (show 1 < 2 by omega)
            have tt0 : tN I0 (ty g (11 - k)) 0 = T (11 - k) 0 := hTe 0
            have tt1 : tN I0 (ty g (11 - k)) 1 = T (11 - k) 1 := hTe 1
            have emf : (mfit I0 g (ty g (11 - k)) j = true) = (T (11 - k) 0 ≤ R j 0 ∧ T (11 - k) 1 ≤ R j 1) := by
              unfold mfit
              rw [q0.2.1 hjh, q1.2.1 hjh, tq0.1, tq1.1, tt0, tt1]
              rw [tt0] at tq0
              rw [tt1] at tq1
              simp only [li_lt (show R j 0 < 2 ^ 31 by omega) (show T (11 - k) 0 < 2 ^ 31 by omega), li_lt (show R j 1 < 2 ^ 31 by omega) (show T (11 - k) 1 < 2 ^ 31 by omega)]
              simp
            rw [m_rc, ob_s, ft, ob_s]
            by_cases hfit : mfit I0 g (ty g (11 - k)) j = true
            · have hT2 := hfit
              rw [emf] at hT2
              rw [hfit, if_pos hT2]
              simp only [if_true]
              rw [if_neg n10, m_R26, ob_s, op_st _ sh_213 rfl hi (by omega), ob_s, m_R1, ob_s, m_of2, ob_s, m_snowJ _ (by omega), ob_s, m_rc, ob_s, e1]
              have tyE : tyT I0 g (11 - k) = T (11 - k) := funext hTe
              have rm2 : rmR I0 (moF g (11 - k) j) NH h (subR R j (T (11 - k))) := by
                have z := rm_move hg h8 hw hR hi hrn hho hjN hjh (by rw [hTe]; exact hT2.1) (by rw [hTe]; exact hT2.2)
                rw [tyE] at z
                exact z
              obtain ⟨I2, r1, r2, r3, r4⟩ := ih n (ab_u I1 215 (11 - k) (nI j)) (moF g (11 - k) j) (subR R j (T (11 - k))) (by omega) (by omega) (fun r a c => (u_r (by omega)).trans (s1 r a c)) (wfs_move hw h8 hjN) rm2 (fun i a c => by
                refine ⟨by rw [moF_rn]; exact (hon i a c).1, fun w => ?_⟩
                have := (hon i a c).2 w
                unfold tyT at this ⊢
                rw [moF_ty]; exact this) (fun i a c e => by
                have : vi (moF g (11 - k) j) i 2 = vi g i 2 := fu_n (by omega)
                rw [this]; exact hv i (by omega) c e)
              have r1' : dd_X12_drains n 200 (nI h) (sets on) (nI (12 - k)) (S0, ab_u I1 215 (11 - k) (nI j), jr J (fu g (14 + 6 * (11 - k) + 2) (nI j).toInt64), x) = _ := r1
              have back : jr (jr J (moF g (11 - k) j)) (fu (moF g (11 - k) j) (14 + 6 * (11 - k) + 2) (nI h).toInt64) = jr J g := by
                rw [jr_jr]
                exact congrArg (jr J) (moF_back hv0)
              have back2 : jr J (fu (moF g (11 - k) j) (14 + 6 * (11 - k) + 2) (nI h).toInt64) = jr J g := congrArg (jr J) (moF_back hv0)
              rw [r1', ob_s, m_R1, ob_s, m_of2, ob_s, m_snowJ _ (by omega), ob_s, back2]
              have o12 : ∀ r, r ≠ 215 → I2 r = I r := fun r hr => (r2 r hr).trans ((u_r hr).trans (o1 r hr))
              have lo2 : ∀ i, i < 11 - k → I2 215 i = I 215 i := fun i hi2 => (r3 i (by omega)).trans ((u_k (by omega)).trans (o2 i hi2))
              cases hd : drF on T NH k (subR R j (T (11 - k))) with
              | none =>
                show ∃ I', (if (if (none : Option (Nat → Nat)).isSome = true then (1 : Int32) else 0) = 0 then _ else _) = _ ∧ _
                rw [if_pos (by decide), bb_X12_drains_116, nI_1]
                exact ihq m (j + 1) I2 (by omega) (by omega) o12 lo2
              | some B =>
                show ∃ I', (if (if (some B).isSome = true then (1 : Int32) else 0) = 0 then _ else _) = _ ∧ _
                rw [if_neg (show ¬ (if (some B).isSome = true then (1 : Int32) else 0) = 0 from n10)]
                refine ⟨I2, rfl, o12, lo2, fun B' hB' i h1 h2 h3 => ?_⟩
                have eB : updN B (11 - k) j = B' := by simpa using hB'
                rw [← eB]
                unfold updN
                by_cases q : i = 11 - k
                · rw [if_pos q, q, r3 (11 - k) (by omega), u_e]
                · rw [if_neg q]
                  exact r4 B hd i (by omega) h2 h3
            · have hT2 := hfit
              rw [emf] at hT2
              have hff : mfit I0 g (ty g (11 - k)) j = false := by simpa using hfit
              rw [hff, if_neg hT2]
              simp only [Bool.false_eq_true, if_false, if_true]
              rw [bb_X12_drains_116, nI_1]
              exact ihq m (j + 1) I1 (by omega) (by omega) o1 o2
      obtain ⟨I', r1, r2, r3, r4⟩ := loop NH ab_fu 0 I (by omega) (ab_fu_big (by omega)) (fun _ _ => rfl) (fun _ _ => rfl)
      refine ⟨I', ?_, r2, fun i hi2 => r3 i (by omega), fun B hB i h1 h2 h3 => r4 B hB i (by omega) h2 h3⟩
      exact r1
end DM
