/-! ===== a market begins anew: the reference ===== -/
section BN
variable {I I' I0 I1 I2 I3 I4 M M' M0 M1 M2 : Nat → Nat → Int32} {J J' J1 J2 J3 J4 : Nat → Nat → Int64} {x x' : Nat} {NH NY NE NR : Nat} {f g : Nat → Int64}
theorem m_lifts {a h : Nat} (ha : S0[a]? = some (1, 2 * h, [])) (hd : nI (2 * h) / 2 = nI h) (h9 : h < 900) : ∃ M', dd_X12_lifts a (S0, M, J, x) = some ((), (S0, M', J, x)) ∧ (∀ r, r ≠ a → M' r = M r) ∧ (∀ k, k < h → M' a k = M a (h + k)) ∧ ∀ k, h ≤ k → M' a k = M a k := by
  have loop : ∀ (q fu k : Nat) (M1 : Nat → Nat → Int32), k + q = h → q < fu → (∀ r, r ≠ a → M1 r = M r) → (∀ j, j < k → M1 a j = M a (h + j)) → (∀ j, k ≤ j → M1 a j = M a j) → ∃ M', bb_X12_lifts_2 fu a (nI k) (S0, M1, J, x) = some ((), (S0, M', J, x)) ∧ (∀ r, r ≠ a → M' r = M r) ∧ (∀ k, k < h → M' a k = M a (h + k)) ∧ ∀ k, h ≤ k → M' a k = M a k := by
    intro q
    induction q with
    | zero =>
      intro fu k M1 e1 e2 e3 e4 e5
      obtain ⟨fu, rfl⟩ : ∃ z, fu = z + 1 := ⟨fu - 1, by omega⟩
      have ek : k = h := by omega
      subst ek
      refine ⟨M1, ?_, e3, e4, e5⟩
      rw [bb_X12_lifts_2, op_len ha, ob_s, if_neg (by decide), hd, if_pos (le_self _)]
    | succ q ih =>
      intro fu k M1 e1 e2 e3 e4 e5
      obtain ⟨fu, rfl⟩ : ∃ z, fu = z + 1 := ⟨fu - 1, by omega⟩
      rw [bb_X12_lifts_2, op_len ha, ob_s, if_neg (by decide), hd, if_neg (by rw [li_le (by omega) (by omega)]; omega), ob_s, if_neg (by decide), hd, li_add, op_ld ha rfl (by omega) (by omega), ob_s, op_st _ ha rfl (by omega) (by omega), ob_s, nI_1]
      refine ih fu (k + 1) _ (by omega) (by omega) (fun r hr => by rw [u_r hr]; exact e3 r hr) (fun j hj => ?_) (fun j hj => by rw [u_k (by omega)]; exact e5 j (by omega))
      by_cases e : j = k
      · rw [e, u_e]; exact e5 _ (by omega)
      · rw [u_k e]; exact e4 j (by omega)
  exact loop h ab_fu 0 M (by omega) (ab_fu_big (by omega)) (fun _ _ => rfl) (fun j hj => by omega) (fun _ _ => rfl)
/-- the draft is lifted -/
def lft (M M' : Nat → Nat → Int32) : Prop := (∀ r, r < 202 ∨ 209 ≤ r → M' r = M r) ∧ (∀ k, k < 7 → M' 202 k = M 202 (7 + k)) ∧ (∀ k, k < 16 → M' 203 k = M 203 (16 + k)) ∧ (∀ k, k < 18 → M' 204 k = M 204 (18 + k)) ∧ (∀ k, k < 6 → M' 205 k = M 205 (6 + k)) ∧ (∀ k, k < 48 → M' 206 k = M 206 (48 + k)) ∧ (∀ k, k < 1 → M' 207 k = M 207 (1 + k)) ∧ (∀ k, k < 820 → M' 208 k = M 208 (820 + k))
theorem m_liftsAll : ∃ M', dd_X12_liftsAll 200 (S0, M, J, x) = some ((), (S0, M', J, x)) ∧ lft M M' := by
  obtain ⟨M1, a1, a2, a3, a4⟩ := m_lifts (M := M) (J := J) (x := x) (a := 202) (h := 7) rfl (by decide) (by omega)
  obtain ⟨M2, b1, b2, b3, b4⟩ := m_lifts (M := M1) (J := J) (x := x) (a := 203) (h := 16) rfl (by decide) (by omega)
  obtain ⟨M3, c1, c2, c3, c4⟩ := m_lifts (M := M2) (J := J) (x := x) (a := 204) (h := 18) rfl (by decide) (by omega)
  obtain ⟨M4, d1, d2, d3, d4⟩ := m_lifts (M := M3) (J := J) (x := x) (a := 205) (h := 6) rfl (by decide) (by omega)
  obtain ⟨M5, e1, e2, e3, e4⟩ := m_lifts (M := M4) (J := J) (x := x) (a := 206) (h := 48) rfl (by decide) (by omega)
  obtain ⟨M6, f1, f2, f3, f4⟩ := m_lifts (M := M5) (J := J) (x := x) (a := 207) (h := 1) rfl (by decide) (by omega)
  obtain ⟨M7, g1, g2, g3, g4⟩ := m_lifts (M := M6) (J := J) (x := x) (a := 208) (h := 820) rfl (by decide) (by omega)
  refine ⟨M7, ?_, fun r hr => ?_, fun k hk => ?_, fun k hk => ?_, fun k hk => ?_, fun k hk => ?_, fun k hk => ?_, fun k hk => ?_, fun k hk => ?_⟩
  · unfold dd_X12_liftsAll
    rw [m_R2, ob_s, a1, ob_s, m_R3, ob_s, b1, ob_s, m_R4, ob_s, c1, ob_s, m_R5, ob_s, d1, ob_s, m_R6, ob_s, e1, ob_s, m_R7, ob_s, f1, ob_s, m_R8, ob_s, g1, ob_s]
  · rw [g2 r (by omega), f2 r (by omega), e2 r (by omega), d2 r (by omega), c2 r (by omega), b2 r (by omega), a2 r (by omega)]
  · rw [g2 202 (by omega), f2 202 (by omega), e2 202 (by omega), d2 202 (by omega), c2 202 (by omega), b2 202 (by omega)]; exact a3 k hk
  · rw [g2 203 (by omega), f2 203 (by omega), e2 203 (by omega), d2 203 (by omega), c2 203 (by omega), b3 k hk, a2 203 (by omega)]
  · rw [g2 204 (by omega), f2 204 (by omega), e2 204 (by omega), d2 204 (by omega), c3 k hk, b2 204 (by omega), a2 204 (by omega)]
  · rw [g2 205 (by omega), f2 205 (by omega), e2 205 (by omega), d3 k hk, c2 205 (by omega), b2 205 (by omega), a2 205 (by omega)]
  · rw [g2 206 (by omega), f2 206 (by omega), e3 k hk, d2 206 (by omega), c2 206 (by omega), b2 206 (by omega), a2 206 (by omega)]
  · rw [g2 207 (by omega), f3 k hk, e2 207 (by omega), d2 207 (by omega), c2 207 (by omega), b2 207 (by omega), a2 207 (by omega)]
  · rw [g3 k hk, f2 208 (by omega), e2 208 (by omega), d2 208 (by omega), c2 208 (by omega), b2 208 (by omega), a2 208 (by omega)]
/-- the row of a market without instances -/
def f0P (f : Nat → Int64) : Prop := (∀ i, i < 12 → vi f i 0 = -1) ∧ ∀ k, k < 14 → f k = 0
theorem f0_rn (h : f0P f) {i : Nat} (hi : i < 12) : rn f i = false := by
  unfold rn
  rw [h.1 i hi]
  rfl
theorem m_begins0 (hc : mc M NH NY NE NR) : ∃ M' f, dd_X12_begins 200 (S0, M, J, x) = some ((), (S0, M', jr J (prF M NH NY f), x)) ∧ f0P f ∧ (∀ r, r ≠ 200 → r ≠ 219 → M' r = M r) ∧ (∀ k, k ≠ 29 → M' 200 k = M 200 k) ∧ M' 200 29 = 0 ∧ M' 219 0 = 0 ∧ M' 219 1 = 0 := by
  have l1 : ∀ (q fu k : Nat) (f : Nat → Int64), k + q = 116 → q < fu → (∀ j, j < k → f j = 0) → ∃ f', bb_X12_begins_2 fu 200 (nI k) (S0, M, jr J f, x) = bb_X12_begins_23 ab_fu 200 0 (S0, M, jr J f', x) ∧ ∀ j, j < 116 → f' j = 0 := by
    intro q
    induction q with
    | zero =>
      intro fu k f e1 e2 e3
      obtain ⟨fu, rfl⟩ : ∃ z, fu = z + 1 := ⟨fu - 1, by omega⟩
      have ek : k = 116 := by omega
      subst ek
      exact ⟨f, by rw [bb_X12_begins_2, if_pos (by decide)], e3⟩
    | succ q ih =>
      intro fu k f e1 e2 e3
      obtain ⟨fu, rfl⟩ : ∃ z, fu = z + 1 := ⟨fu - 1, by omega⟩
      rw [bb_X12_begins_2, if_neg (by rw [li_n 116, li_le (by omega) (by omega)]; omega), m_R1, ob_s, m_snowJ _ (by omega), ob_s, nI_1]
      refine ih fu (k + 1) _ (by omega) (by omega) (fun j hj => ?_)
      by_cases e : j = k
      · rw [e, fu_e]
      · rw [fu_n e]; exact e3 j (by omega)
  have l2 : ∀ (q fu k : Nat) (f : Nat → Int64), k + q = 12 → q < fu → (∀ i, i < k → vi f i 0 = -1) → (∀ k, k < 14 → f k = 0) → ∃ fu' f', bb_X12_begins_23 fu 200 (nI k) (S0, M, jr J f, x) = bb_X12_begins_23 (fu' + 1) 200 (nI 12) (S0, M, jr J f', x) ∧ f0P f' := by
    intro q
    induction q with
    | zero =>
      intro fu k f e1 e2 e3 e4
      obtain ⟨fu, rfl⟩ : ∃ z, fu = z + 1 := ⟨fu - 1, by omega⟩
      have ek : k = 12 := by omega
      subst ek
      exact ⟨fu, f, rfl, e3, e4⟩
    | succ q ih =>
      intro fu k f e1 e2 e3 e4
      obtain ⟨fu, rfl⟩ : ∃ z, fu = z + 1 := ⟨fu - 1, by omega⟩
      have go : bb_X12_begins_23 (fu + 1) 200 (nI k) (S0, M, jr J f, x) = bb_X12_begins_23 fu 200 (nI (k + 1)) (S0, M, jr J (_root_.Jvm.Pilot.CCloudMarketLaw_law_r9680_97fdf1.fu f (14 + 6 * k + 0) (-1)), x) := by
        rw [bb_X12_begins_23, if_neg (li_12 (by omega)), m_R1, ob_s, m_of0, ob_s, m_snowJ _ (by omega), ob_s, nI_1]
      rw [go]
      refine ih fu (k + 1) _ (by omega) (by omega) (fun i hi => ?_) (fun j hj => ?_)
      · by_cases e : i = k
        · rw [e]; exact fu_e
        · have : vi (_root_.Jvm.Pilot.CCloudMarketLaw_law_r9680_97fdf1.fu f (14 + 6 * k + 0) (-1)) i 0 = vi f i 0 := fu_n (by omega)
          rw [this]; exact e3 i (by omega)
      · rw [fu_n (by omega)]; exact e4 j hj
  have hj : jr J (J 201) = J := jr_id J
  obtain ⟨f1, a1, a2⟩ := l1 116 ab_fu 0 (J 201) (by omega) (ab_fu_big (by omega)) (fun j hj => by omega)
  obtain ⟨fu', f2, b1, b2⟩ := l2 12 ab_fu 0 f1 (by omega) (ab_fu_big (by omega)) (fun i hi => by omega) (fun j hj => a2 j (by omega))
  have hw : wfs NH NY NE f2 := fun i hi hr => by rw [f0_rn b2 hi] at hr; cases hr
  refine ⟨ab_u (ab_u (ab_u M 200 29 0) 219 0 0) 219 1 0, f2, ?_, b2, fun r p1 p2 => by rw [u_r p2, u_r p2, u_r p1], fun k hk => by rw [u_r (by omega), u_r (by omega), u_k hk], by rw [u_r (by omega), u_r (by omega), u_e], by rw [u_k (by omega), u_e], u_e⟩
  unfold dd_X12_begins
  rw [hj] at a1
  refine a1.trans (b1.trans ?_)
  have z1 : (0 : Int32) &&& 1 = 0 := by decide
  rw [bb_X12_begins_23, if_pos li_12e, m_rc, ob_s, m_prices hc hw, ob_s, m_P29, ob_s, m_R32, ob_s, z1, op_st _ sh_217 li_0 (by omega) (by omega), ob_s, m_R32, ob_s, op_st _ sh_217 (li_n 1) (by omega) (by omega), ob_s]
/-- the market begins: class and reference belong together -/
theorem RS_begin (hc : mc I NH NY NE NR) (hg : mrg I NH NY NE NR) (hl : clR I NH NY NE NR) (h0 : f0P f) (hI : siI I 32) (c0 : I 32 0 = 0) (c1 : I 32 1 = 0) (c2 : I 35 3 = 0) (cl : ∀ h, h < 8 → ∀ w, w < 2 → I 40 (h * 2 + w) = 0) (cp : ∀ y, y < NY → I 38 (y * 1 + 0) = prcS I 18 y 0) (cJ : ∀ k, k < 6 → J 41 k = 0) : RS I J NH NY NE 32 (prF I NH NY f) := by
  have h6 := hc.2.2.1
  have h8 := hc.2.1
  have hw : wfs NH NY NE f := fun i hi hr => by rw [f0_rn h0 hi] at hr; cases hr
  have lz : ∀ h w, lod I f h w = 0 := fun h w => by
    unfold lod
    rw [sm_congr (g := fun _ => 0) (fun i hi => ?_), sm_zero]
    rw [f0_rn h0 hi]; simp
  have lz2 : mload I f = 0 := by
    unfold mload
    rw [sm_congr (g := fun _ => 0) (fun i hi => ?_), sm_zero]
    rw [f0_rn h0 hi]; simp
  have i0 : isn (f 0) 20000 := by rw [h0.2 0 (by omega)]; exact ⟨by decide, by decide⟩
  have i1 : isn (f 1) 11 := by rw [h0.2 1 (by omega)]; exact ⟨by decide, by decide⟩
  have q0 : nq f = 0 := by unfold nq; rw [h0.2 1 (by omega)]; decide
  have wf : wff I NH NY NE f := by
    refine ⟨i0, i1, hw, fun i hi hr => ?_, fun y hy => ?_, fun r hr => ?_, fun h hh w hw2 => ?_⟩
    · rw [f0_rn h0 hi] at hr; cases hr
    · rw [h0.2 (2 + y) (by omega)]; unfold isI; decide
    · rw [q0] at hr; omega
    · unfold fre
      rw [lz]
      have q := hN_is hg hh hw2
      rw [q.1, Int32.sub_zero]
      exact li_pos (by omega)
  have pf : ∀ k, k < 2 ∨ 8 ≤ k → prF I NH NY f k = f k := fun k hk => prF_off k (by omega)
  have ern : ∀ i, rn (prF I NH NY f) i = rn f i := fun i => by
    unfold rn vi
    rw [pf _ (by omega)]
  have eus : useF I f NH = 0 := by
    unfold useF
    rw [lz2, Int32.mul_zero, Int32.zero_div]
    split <;> rfl
  have lz3 : ∀ h w, lod I (prF I NH NY f) h w = 0 := fun h w => by
    unfold lod
    rw [sm_congr (g := fun _ => 0) (fun i hi => ?_), sm_zero]
    rw [ern, f0_rn h0 hi]; simp
  have nq0 : nq (prF I NH NY f) = 0 := by
    unfold nq
    rw [pf 1 (by omega)]; exact q0
  refine ⟨⟨hI, ?_, ?_, fun i hi hr => ?_, fun y hy => ?_, fun h hh w hw2 => ?_, ?_, fun r hr => ?_⟩, wff_pr hg h6 wf, fun e he => ?_, ?_⟩
  · rw [c0]
    unfold clk
    rw [pf 0 (by omega), h0.2 0 (by omega)]
    decide
  · rw [c1]
    have z : sets (fun _ => false) = 0 := by decide
    rw [← z]
    exact sets_congr (fun i hi => by rw [ern, f0_rn h0 hi])
  · rw [ern, f0_rn h0 hi] at hr; cases hr
  · show I 38 (y * 1 + 0) = _
    rw [cp y hy, prF_at y hy, Int32.toInt32_toInt64, eus]
    unfold prcS prcF
    rw [hl.2.2.2.2.1 y hy 2 (by omega), hl.2.2.2.2.2.2.2.1, hl.2.2.2.2.2.2.2.2.2]
    generalize mt I y 2 * (I 202 4 + I 202 6 * 0 / 100) / 100 = X
    by_cases c : X < mt I y 2
    · rw [if_pos c, if_neg (by rw [Int32.le_iff_toInt_le]; rw [Int32.lt_iff_toInt_lt] at c; omega)]
    · rw [if_neg c, if_pos (by rw [Int32.le_iff_toInt_le]; rw [Int32.lt_iff_toInt_lt] at c; omega)]
  · rw [lz3]; exact cl h hh w hw2
  · show I 35 3 = _
    rw [c2, nq0]; rfl
  · rw [nq0] at hr; omega
  · show J 41 e = _
    rw [cJ e he, pf (8 + e) (by omega), h0.2 (8 + e) (by omega)]
  · rw [pf 0 (by omega), h0.2 0 (by omega)]
    decide
end BN
