/-! ===== drain: the plan is carried out ===== -/
section DQ
variable {I I' I0 I1 I2 I3 I4 : Nat → Nat → Int32} {J J' J1 J2 J3 J4 : Nat → Nat → Int64} {x : Nat} {NH NY NE NR s d u tp u' tp' : Nat} {f g f' : Nat → Int64} {H S H' : Nat → Nat → Int64} {b : Nat → Bool}
theorem fre_osp (h : osp f g) (k w : Nat) : fre I g k w = fre I f k w := by
  unfold fre lod
  have e : sm (fun i => if rn g i = true ∧ ho g i = k then mt I (ty g i) w else 0) 12 = sm (fun i => if rn f i = true ∧ ho f i = k then mt I (ty f i) w else 0) 12 := sm_congr (fun i _ => by
    unfold ho ty
    rw [osp_rn h, osp_vi h, osp_vi h])
  rw [e]
theorem rmR_osp (h : osp f g) {hh : Nat} {R : Nat → Nat → Nat} (hR : rmR I f NH hh R) : rmR I g NH hh R := fun k hk w hw => by
  rw [fre_osp h]
  exact hR k hk w hw
theorem rmR_I (h1 : I' 203 = I 203) (h2 : I' 204 = I 204) {hh : Nat} {R : Nat → Nat → Nat} (hR : rmR I f NH hh R) : rmR I' f NH hh R := fun k hk w hw => by
  rw [fre_I h1 h2]
  exact hR k hk w hw
theorem mv_osp {i h : Nat} {c : Int32} (hen : en f i < 6) : osp (moF f i h) (mvF f i h c) := fun k hk => by
  unfold mvF moF fu
  by_cases e : k = 14 + 6 * i + 2
  · rw [if_pos e, if_pos e]
  · rw [if_neg e, if_neg e]
    show (if k = 8 + en f i then _ else f k) = f k
    rw [if_neg (by omega)]
/-- all moves, one after the other -/
def cryF (I : Nat → Nat → Int32) (on : Nat → Bool) (B : Nat → Nat) (n : Nat) : Nat → (Nat → Int64) → Nat → Int64
  | 0, g => g
  | k + 1, g => if on (11 - k) then cryF I on B n k (mvF g (11 - k) (B (11 - k)) (cstF I g (11 - k) n)) else cryF I on B n k g
theorem cryF_I (h : I' 204 = I 204) (h2 : I' 208 = I 208) {on : Nat → Bool} {B : Nat → Nat} {n : Nat} : ∀ k g, cryF I' on B n k g = cryF I on B n k g
  | 0, g => rfl
  | k + 1, g => by rw [cryF, cryF, cstF_I h h2, cryF_I h h2 k, cryF_I h h2 k]
def crS (I : Nat → Nat → Int32) (NH NY NE h : Nat) (on : Nat → Bool) (T : Nat → Nat → Nat) (B : Nat → Nat) (k : Nat) (g : Nat → Int64) (R : Nat → Nat → Nat) : Prop :=
  wfs NH NY NE g ∧ rmR I g NH h R ∧ vld on T NH k R B ∧ ∀ j, 12 - k ≤ j → j < 12 → on j = true → rn g j = true ∧ ho g j = h ∧ (∀ w, tyT I g j w = T j w)
theorem crS_skip {h k : Nat} {on : Nat → Bool} {T R : Nat → Nat → Nat} {B : Nat → Nat} (hs : crS I NH NY NE h on T B (k + 1) g R) (ho1 : on (11 - k) = false) : crS I NH NY NE h on T B k g R := by
  obtain ⟨a, c, d, e⟩ := hs
  rw [vld, if_neg (by rw [ho1]; decide)] at d
  exact ⟨a, c, d, fun j h1 h2 h3 => e j (by omega) h2 h3⟩
theorem crS_step (hg : mrg I NH NY NE NR) (h8 : NH ≤ 8) (h6e : NE ≤ 6) {h k : Nat} {on : Nat → Bool} {T R : Nat → Nat → Nat} {B : Nat → Nat} (hk : k < 12) (hT : ∀ i, i < 12 → on i = true → ∀ w, w < 2 → 1 ≤ T i w) (hs : crS I NH NY NE h on T B (k + 1) g R) (ho1 : on (11 - k) = true) (c : Int32) :
    rn g (11 - k) = true ∧ B (11 - k) < NH ∧ ho g (11 - k) ≠ B (11 - k) ∧ mfit I g (ty g (11 - k)) (B (11 - k)) = true ∧ crS I NH NY NE h on T B k (mvF g (11 - k) (B (11 - k)) c) (subR R (B (11 - k)) (T (11 - k))) := by
  obtain ⟨a, cc, d, e⟩ := hs
  rw [vld, if_pos ho1] at d
  obtain ⟨d1, d2, d3, d4⟩ := d
  have hi : 11 - k < 12 := by omega
  have q := e (11 - k) (by omega) hi ho1
  have t0 := hT _ hi ho1 0 (by omega)
  have hne : B (11 - k) ≠ h := fun z => by
    have := (cc (B (11 - k)) d1 0 (by omega)).2.2 z
    omega
  have hty := ty_lt a hi q.1
  have hen : en g (11 - k) < 6 := by have := en_lt a hi q.1; omega
  have r0 := cc (B (11 - k)) d1 0 (by omega)
  have r1 := cc (B (11 - k)) d1 1 (by omega)
  have tq0 := tN_is hg hty (show 0 < 2 by omega)
  have tq1 := tN_is hg hty (show 1 < 2 by omega)
  have tt0 : tN I (ty g (11 - k)) 0 = T (11 - k) 0 := q.2.2 0
  have tt1 : tN I (ty g (11 - k)) 1 = T (11 - k) 1 := q.2.2 1
  have tyE : tyT I g (11 - k) = T (11 - k) := funext q.2.2
  have os := mv_osp (f := g) (i := 11 - k) (h := B (11 - k)) (c := c) hen
  refine ⟨q.1, d1, by rw [q.2.1]; exact fun z => hne z.symm, ?_, wfs_osp (wfs_move a h8 d1) os, ?_, d4, fun j h1 h2 h3 => ?_⟩
  · unfold mfit
    rw [r0.2.1 hne, r1.2.1 hne, tq0.1, tq1.1, tt0, tt1]
    rw [tt0] at tq0
    rw [tt1] at tq1
    simp only [li_lt (show R (B (11 - k)) 0 < 2 ^ 31 by omega) (show T (11 - k) 0 < 2 ^ 31 by omega), li_lt (show R (B (11 - k)) 1 < 2 ^ 31 by omega) (show T (11 - k) 1 < 2 ^ 31 by omega)]
    simp
    exact ⟨d2, d3⟩
  · have z := rm_move hg h8 a cc hi q.1 q.2.1 d1 hne (by rw [tyE]; exact d2) (by rw [tyE]; exact d3)
    rw [tyE] at z
    exact rmR_osp os z
  · have z := e j (by omega) h2 h3
    have hj : j ≠ 11 - k := by omega
    refine ⟨?_, ?_, fun w => ?_⟩
    · rw [osp_rn os, moF_rn]; exact z.1
    · have : ho (mvF g (11 - k) (B (11 - k)) c) j = ho (moF g (11 - k) (B (11 - k))) j := by unfold ho; rw [osp_vi os]
      rw [this, moF_hoN hj]; exact z.2.1
    · have : ty (mvF g (11 - k) (B (11 - k)) c) j = ty (moF g (11 - k) (B (11 - k))) j := by unfold ty; rw [osp_vi os]
      have z2 := z.2.2 w
      unfold tyT at z2 ⊢
      rw [this, moF_ty]; exact z2
theorem c_carry (hl : clR I0 NH NY NE NR) (hc : mc I0 NH NY NE NR) (hg : mrg I0 NH NY NE NR) {h n : Nat} {on : Nat → Bool} {T : Nat → Nat → Nat} {B : Nat → Nat} (h5 : cn on 12 ≤ 5) (hT : ∀ i, i < 12 → on i = true → ∀ w, w < 2 → 1 ≤ T i w) (hn8 : n ≤ 800) (hn : I0 29 1 = nI n) (hd : cdN (I0 30) (I0 208) n) (hm : mvs I0 on) (hB : ∀ i, i < 12 → on i = true → I0 197 (cn on i) = nI (B i)) : ∀ (k fu : Nat) (I : Nat → Nat → Int32) (J : Nat → Nat → Int64) (g : Nat → Int64) (R : Nat → Nat → Nat), k ≤ 12 → k < fu → row31 I0 I → RS I J NH NY NE 32 g → crS I0 NH NY NE h on T B k g R →
    ∃ I' J', bb_X2_carryOut_2 fu 195 18 32 (nI (cn on (12 - k))) (S0, I, J, x) = some ((), (S0, I', J', x)) ∧ row31 I0 I' ∧ (∀ r, r ≠ 41 → J' r = J r) ∧ RS I' J' NH NY NE 32 (cryF I0 on B n k g) := by
  have h8 := hc.2.1
  have h6e := hc.2.2.2.1
  intro k
  induction k with
  | zero =>
    intro fu I J g R hk hf ho hr hs
    obtain ⟨fu, rfl⟩ : ∃ z, fu = z + 1 := ⟨fu - 1, by omega⟩
    refine ⟨I, J, ?_, ho, fun _ _ => rfl, hr⟩
    show bb_X2_carryOut_2 (fu + 1) 195 18 32 (nI (cn on 12)) (S0, I, J, x) = _
    have e : I 195 2 = nI (cn on 12) := by rw [ho 195 (by omega) (by omega)]; exact hm.1
    rw [bb_X2_carryOut_2, fI_X2_2 okD, ob_s, e, if_pos (le_self _)]
    rfl
  | succ k ih =>
    intro fu I J g R hk hf ho hr hs
    have ei : 12 - (k + 1) = 11 - k := by omega
    have hi : 11 - k < 12 := by omega
    rw [ei, cryF]
    cases ho1 : on (11 - k) with
    | false =>
      have ec : cn on (11 - k) = cn on (12 - k) := by
        rw [show 12 - k = (11 - k) + 1 by omega, cn, ho1]
        rfl
      rw [ec]
      simp only [Bool.false_eq_true, if_false]
      exact ih fu I J g R (by omega) (by omega) ho hr (crS_skip hs ho1)
    | true =>
      obtain ⟨fu, rfl⟩ : ∃ z, fu = z + 1 := ⟨fu - 1, by omega⟩
      simp only [if_true]
      have ec : cn on (12 - k) = cn on (11 - k) + 1 := by rw [show 12 - k = (11 - k) + 1 by omega, cn_str ho1]
      have hlt : cn on (11 - k) < cn on 12 := by
        have := cn_mo on (show 12 - k ≤ 12 by omega)
        omega
      obtain ⟨z1, z2, z3, z4, z5⟩ := crS_step hg h8 h6e (by omega) hT hs ho1 (cstF I0 g (11 - k) n)
      have s2 : sam 201 207 I0 I := fun r a c => ho r (by omega) (by omega)
      have hlI : clR I NH NY NE NR := clR_30 hl (fun r a c => ho r (by omega) (by omega)) s2
      obtain ⟨I1, J1, e1, o1, k1, r1⟩ := @c_moveTo I J x NH NY NE NR g hlI (mc_sam hc s2) (mrg_sam hg s2) hr (11 - k) (B (11 - k)) n hi z1 z2 z3 (by rw [mfit_I (s2 203 (by omega) (by omega)) (s2 204 (by omega) (by omega))]; exact z4) hn8 (by rw [ho 29 (by omega) (by omega)]; exact hn) (by rw [ho 30 (by omega) (by omega), ho 208 (by omega) (by omega)]; exact hd)
      rw [cstF_I (s2 204 (by omega) (by omega)) (ho 208 (by omega) (by omega))] at e1 r1
      obtain ⟨I2, J2, e2, o2, k2, r2⟩ := ih fu I1 J1 _ _ (by omega) (by omega) (row31_trans ho o1) r1 z5
      refine ⟨I2, J2, ?_, o2, fun r hr => (k2 r hr).trans (k1 r hr), r2⟩
      have em : I 195 2 = nI (cn on 12) := by rw [ho 195 (by omega) (by omega)]; exact hm.1
      have e4 : I 196 (cn on (11 - k)) = nI (11 - k) := by rw [ho 196 (by omega) (by omega)]; exact hm.2 _ hi ho1
      have e5 : I 197 (cn on (11 - k)) = nI (B (11 - k)) := by rw [ho 197 (by omega) (by omega)]; exact hB _ hi ho1
      rw [bb_X2_carryOut_2, fI_X2_2 okD, ob_s, em, if_neg (by rw [li_le (by omega) (by omega)]; omega), fR_X2_0 okD, ob_s]
      show ((ab_len (S0, I, J, x) 1 196).bind _) = _
      rw [op_len sh_194, ob_s, if_neg (by rw [li_le (by omega) (by omega)]; omega), fR_X2_1 okD, ob_s]
      show ((ab_len (S0, I, J, x) 1 197).bind _) = _
      rw [op_len sh_195, ob_s, if_neg (by rw [li_le (by omega) (by omega)]; omega), ob_s]
      show ((ab_ld (S0, I, J, x) 1 196 (nI (cn on (11 - k)))).bind _) = _
      rw [op_ld sh_194 rfl (by omega) (by omega), ob_s, ob_s]
      show ((ab_ld (S0, I, J, x) 1 197 (nI (cn on (11 - k)))).bind _) = _
      rw [op_ld sh_195 rfl (by omega) (by omega), ob_s, e_rc, ob_s, e4, e5, e1, ob_s, nI_1, ← ec]
      exact e2
theorem m_carry (hc : mc I0 NH NY NE NR) (hg : mrg I0 NH NY NE NR) {h n : Nat} {on : Nat → Bool} {T : Nat → Nat → Nat} {B : Nat → Nat} (hT : ∀ i, i < 12 → on i = true → ∀ w, w < 2 → 1 ≤ T i w) (hn8 : n ≤ 800) (hn : I0 207 0 = nI n) (hd : cdN (I0 30) (I0 208) n) (hB : ∀ i, i < 12 → on i = true → I0 215 i = nI (B i)) : ∀ (k fu : Nat) (I : Nat → Nat → Int32) (g : Nat → Int64) (R : Nat → Nat → Nat), k ≤ 12 → k < fu → (∀ r, r ≠ 210 → I r = I0 r) → crS I0 NH NY NE h on T B k g R →
    ∃ I', bb_X12_drain_59 fu 200 (sets on) (nI (12 - k)) (S0, I, jr J g, x) = some (nI (cn on 12), (S0, I', jr J (cryF I0 on B n k g), x)) ∧ (∀ r, r ≠ 210 → I' r = I0 r) := by
  have h8 := hc.2.1
  have h6 := hc.2.2.1
  have h6e := hc.2.2.2.1
  intro k
  induction k with
  | zero =>
    intro fu I g R hk hf ho hs
    obtain ⟨fu, rfl⟩ : ∃ z, fu = z + 1 := ⟨fu - 1, by omega⟩
    refine ⟨I, ?_, ho⟩
    show bb_X12_drain_59 (fu + 1) 200 (sets on) (nI 12) (S0, I, jr J g, x) = _
    rw [bb_X12_drain_59, if_pos li_12e, bits_sets, ob_s]
    rfl
  | succ k ih =>
    intro fu I g R hk hf ho hs
    obtain ⟨fu, rfl⟩ : ∃ z, fu = z + 1 := ⟨fu - 1, by omega⟩
    have ei : 12 - (k + 1) = 11 - k := by omega
    have hi : 11 - k < 12 := by omega
    have e1 : nI (11 - k) + 1 = nI (12 - k) := by rw [nI_1, show 11 - k + 1 = 12 - k by omega]
    rw [ei, cryF, bb_X12_drain_59, if_neg (li_12 hi), has_sets on hi, ob_s]
    cases ho1 : on (11 - k) with
    | false =>
      simp only [Bool.false_eq_true, if_false, if_true]
      rw [bb_X12_drain_85, e1]
      exact ih fu I g R (by omega) (by omega) ho (crS_skip hs ho1)
    | true =>
      simp only [if_true]
      obtain ⟨z1, z2, z3, z4, z5⟩ := crS_step hg h8 h6e (by omega) hT hs ho1 (cstF I0 g (11 - k) n)
      obtain ⟨I1, m1, o1⟩ := @m_moves I J x NH NY NE g h6 h6e hs.1 (11 - k) (B (11 - k)) n hi z1 hn8 (by rw [ho 207 (by omega)]; exact hn) (by rw [ho 30 (by omega), ho 208 (by omega)]; exact hd)
      rw [cstF_I (ho 204 (by omega)) (ho 208 (by omega))] at m1
      obtain ⟨I2, m2, o2⟩ := ih fu I1 _ _ (by omega) (by omega) (fun r hr => (o1 r hr).trans (ho r hr)) z5
      refine ⟨I2, ?_, o2⟩
      have e5 : I 215 (11 - k) = nI (B (11 - k)) := by rw [ho 215 (by omega)]; exact hB _ hi ho1
      rw [if_neg n10, m_R26, ob_s, op_ld sh_213 rfl hi (by omega), ob_s, m_rc, ob_s, e5, m1, ob_s, bb_X12_drain_85, e1]
      exact m2
theorem sets_0 {p : Nat → Bool} : (sets p = 0) = (cn p 12 = 0) := by
  have z : sets (fun _ => false) = 0 := by decide
  refine propext ⟨fun h => ?_, fun h => ?_⟩
  · have e : cn p 12 = cn (fun _ => false) 12 := cn_congr (fun k hk => sets_inj (h.trans z.symm) hk)
    rw [e]; rfl
  · rw [← z]
    refine sets_congr (fun i hi => ?_)
    cases hp : p i with
    | false => rfl
    | true =>
      have h1 := cn_str hp
      have h2 := cn_mo p (show i + 1 ≤ 12 by omega)
      omega
/-- as Inv_chg, where the model's own scratch rows have changed too -/
theorem Inv_chg2 (w : W0 I NH NY NE NR) (rd : Rdr I) (c1 : InvC I1 J1 NH NY NE f u' tp' H' b S) (o1 : ∀ r, r < 52 ∨ 155 ≤ r → I1 r = I r) (o2 : row31 I1 I2) (k2 : ∀ r, r ≠ 41 → J2 r = J1 r) (r2 : RS I2 J2 NH NY NE 32 f')
    (m3 : InvM I3 J3 f u' H' b S) (j3 : ∀ r, r < 200 → J3 r = J2 r) (o3 : ∀ r, r ≠ 200 → r ≠ 215 → I3 r = I2 r) (n3 : ∀ k, k ≠ 0 → k ≠ 29 → I3 200 k = I2 200 k)
    (o4 : ∀ r, r ≠ 200 → r ≠ 210 → I4 r = I3 r) (n4 : ∀ k, k ≠ 0 → k ≠ 27 → I4 200 k = I3 200 k) : Inv I4 (jr J3 f') := by
  have c2 := InvC_31 c1 o2 k2 r2
  have off : ∀ r, r ≠ 200 → (r ≠ 210 ∧ r ≠ 215) → I4 r = I2 r := fun r a e => (o4 r a e.1).trans (o3 r a e.2)
  have offI : ∀ r, r ≠ 200 → (r ≠ 210 ∧ r ≠ 215) → r ≠ 31 → (r < 32 ∨ 155 ≤ r) → I4 r = I r := fun r a e c q => (off r a e).trans ((o2 r c (by omega)).trans (o1 r (by omega)))
  have offk : ∀ k, k ≠ 0 → k ≠ 27 → k ≠ 29 → I4 200 k = I 200 k := fun k a c e => (n4 k a c).trans ((n3 k a e).trans (by rw [o2 200 (by omega) (by omega), o1 200 (by omega)]))
  refine Inv_of (W0_sam w (fun r h1 h2 => offI r (by omega) (by omega) (by omega) (by omega)) (fun r h1 h2 => offI r (by omega) (by omega) (by omega) (by omega))) (InvC_md c2 (fun r h1 h2 => off r (by omega) (by omega)) (fun r h1 h2 => off r (by omega) (by omega)) (fun r h => (jr_off (by omega)).trans (j3 r h))) (InvM_jr m3 (n4 29 (by omega) (by omega)) (o4 219 (by omega) (by omega))) (ag_refl _) (Rdr_sam rd (fun r h1 h2 => offI r (by omega) (by omega) (by omega) (by omega)) (offI 209 (by omega) (by omega) (by omega) (by omega)) (offk 10 (by omega) (by omega) (by omega)) (offk 17 (by omega) (by omega) (by omega)) ⟨congrFun (offI 213 (by omega) (by omega) (by omega) (by omega)) 0, congrFun (offI 214 (by omega) (by omega) (by omega) (by omega)) 0⟩)
theorem m_kept2 (c : InvC I J NH NY NE f u tp H b S) (m : InvM I J f u H b S) (e0 : I2 200 0 = 0) (e1 : I2 200 29 = I 200 29) (e2 : I2 219 = I 219) (jm : ∀ r, 155 ≤ r → r ≠ 220 → J' r = J r) :
    ∃ I3 J3, dd_X12_keeps 200 (S0, I2, J', x) = some ((), (S0, I3, J3, x)) ∧ J3 = jr J3 f ∧ InvM I3 J3 f (min (u + 1) 10) (cns f H) b S ∧ (∀ r, r < 200 → J3 r = J' r) ∧ (∀ r, r ≠ 200 → I3 r = I2 r) ∧ (∀ k, k ≠ 29 → I3 200 k = I2 200 k) ∧ J3 220 = J' 220 := by
  have m2 : InvM I2 J' f u H b S := InvM_cl m e1 e2 (jm 201 (by omega) (by omega)) (jm 217 (by omega) (by omega)) (jm 218 (by omega) (by omega))
  obtain ⟨I3, J3, e3, m3, o3, ok3, k3⟩ := @m_keeps I2 J' x u f H S b m2 c.2.2.1.1
  have hf3 : J3 = jr J3 f := by
    have := jr_id J3
    rw [m3.1] at this
    exact this.symm
  exact ⟨I3, J3, e3, hf3, m3, fun r hr => k3 r (by omega), o3, ok3, k3 220 (by omega)⟩
end DQ
