/-! ===== a market begins anew: the class ===== -/
section BG
variable {I I' I0 I1 I2 I3 I4 M M' M0 M1 M2 : Nat → Nat → Int32} {J J' J1 J2 J3 J4 : Nat → Nat → Int64} {x x' : Nat} {NH NY NE NR : Nat}
def roJ (J : Nat → Nat → Int64) (r : Nat) (f : Nat → Int64) : Nat → Nat → Int64 := fun a b => if a = r then f b else J a b
theorem c_fillJ : ∃ J', dd_J7_fill_d0a16 41 0 (S0, I, J, x) = some ((), (S0, I, J', x)) ∧ (∀ r, r ≠ 41 → J' r = J r) ∧ ∀ k, k < 6 → J' 41 k = 0 := by
  have h40 : S0[41]? = some (4, 6, []) := rfl
  have loop : ∀ (q fu k : Nat) (J1 : Nat → Nat → Int64), k + q = 6 → q < fu → (∀ r, r ≠ 41 → J1 r = J r) → (∀ j, j < k → J1 41 j = 0) → ∃ J', bb_J7_fill_d0a16_6 fu 41 0 (nI k) (nI 6) (S0, I, J1, x) = some ((), (S0, I, J', x)) ∧ (∀ r, r ≠ 41 → J' r = J r) ∧ ∀ k, k < 6 → J' 41 k = 0 := by
    intro q
    induction q with
    | zero =>
      intro fu k J1 e1 e2 e3 e4
      obtain ⟨fu, rfl⟩ : ∃ z, fu = z + 1 := ⟨fu - 1, by omega⟩
      have ek : k = 6 := by omega
      subst ek
      refine ⟨J1, ?_, e3, e4⟩
      rw [bb_J7_fill_d0a16_6, if_pos (le_self _)]
    | succ q ih =>
      intro fu k J1 e1 e2 e3 e4
      obtain ⟨fu, rfl⟩ : ∃ z, fu = z + 1 := ⟨fu - 1, by omega⟩
      rw [bb_J7_fill_d0a16_6, if_neg (by rw [li_le (by omega) (by omega)]; omega), op_stJ _ h40 rfl (by omega) (by omega), ob_s, nI_1]
      refine ih fu (k + 1) _ (by omega) (by omega) (fun r hr => by rw [u_r hr]; exact e3 r hr) (fun j hj => ?_)
      by_cases e : j = k
      · rw [e, u_e]
      · rw [u_k e]; exact e4 j (by omega)
  unfold dd_J7_fill_d0a16
  rw [op_len h40, ob_s]
  exact loop 6 ab_fu 0 J (by omega) (ab_fu_big (by omega)) (fun _ _ => rfl) (fun j hj => by omega)
theorem tb_clearE {t R C : Nat} (h : tb t R C) : ∃ I', dd_X10_clear t (S0, I, J, x) = some ((), (S0, I', J, x)) ∧ (∀ r, r ≠ t → r ≠ t + 1 → I' r = I r) ∧ (∀ b, b < R * C → I' (t + 1) b = 0) ∧ I' t 3 = 0 ∧ ∀ k, k ≠ 3 → I' t k = I t k := by
  refine ⟨_, tb_clear h, fun r a b => ?_, fun b hb => ?_, u_e, fun k hk => ?_⟩
  · rw [u_r a, ro_off _ _ b]
  · rw [u_r (by omega), ro_at, if_pos hb]
  · rw [u_k hk, ro_off _ _ (by omega)]
theorem c_prices0 (hI : siI I 32) (hC : clI I 18) (hn : I 21 3 = nI NY) (h6 : NY ≤ 6) (hz : ∀ h, h < 8 → I 40 (h * 2 + 0) = 0) : ∃ I', dd_X8_setPrices 32 18 (S0, I, J, x) = some ((), (S0, I', J, x)) ∧ (∀ r, r ≠ 38 → I' r = I r) ∧ ∀ y, y < NY → I' 38 (y * 1 + 0) = prcS I 18 y 0 := by
  have loop : ∀ (q fu k : Nat) (I1 : Nat → Nat → Int32), k + q = NY → q < fu → (∀ r, r ≠ 38 → I1 r = I r) → (∀ y, y < k → I1 38 (y * 1 + 0) = prcS I 18 y 0) → ∃ I', bb_X8_setPrices_34 fu 32 18 0 (nI k) (S0, I1, J, x) = some ((), (S0, I', J, x)) ∧ (∀ r, r ≠ 38 → I' r = I r) ∧ ∀ y, y < NY → I' 38 (y * 1 + 0) = prcS I 18 y 0 := by
    intro q
    induction q with
    | zero =>
      intro fu k I1 e1 e2 e3 e4
      obtain ⟨fu, rfl⟩ : ∃ z, fu = z + 1 := ⟨fu - 1, by omega⟩
      have ek : k = NY := by omega
      subst ek
      have e0 : I1 21 3 = nI k := by rw [e3 21 (by omega)]; exact hn
      refine ⟨I1, ?_, e3, e4⟩
      rw [bb_X8_setPrices_34, d_R1, ob_s, fI_X10_3 cl17.2.2.1.1, ob_s, e0, if_pos (le_self _)]
    | succ q ih =>
      intro fu k I1 e1 e2 e3 e4
      obtain ⟨fu, rfl⟩ : ∃ z, fu = z + 1 := ⟨fu - 1, by omega⟩
      have e0 : I1 21 3 = nI NY := by rw [e3 21 (by omega)]; exact hn
      have hC1 : clI I1 18 := by
        unfold clI tI at hC ⊢
        rw [e3 (18 + 1) (by omega), e3 (18 + 3) (by omega), e3 (18 + 5) (by omega), e3 (18 + 7) (by omega), e3 (18 + 9) (by omega)]
        exact hC
      have hI1 : tI I1 37 6 1 := by
        have q := hI.2.2.1
        unfold tI at q ⊢
        rw [e3 37 (by omega)]; exact q
      have ep : prcS I1 18 k 0 = prcS I 18 k 0 := by
        unfold prcS gt gg
        rw [e3 (18 + 3 + 1) (by omega), e3 (18 + 9 + 1) (by omega)]
      have pr := cl_prc (J := J) (x := x) cl17 hC1 (y := k) (a := nI k) 0 rfl (by omega)
      have st : dd_X10_set 37 (nI k) 0 (prcS I 18 k 0) (S0, I1, J, x) = some ((), (S0, ab_u I1 38 (k * 1 + 0) (prcS I 18 k 0), J, x)) := tb_set (t := 37) _ si31.2.2.2.1 hI1 rfl li_0 (by omega) (by omega)
      rw [bb_X8_setPrices_34, d_R1, ob_s, fI_X10_3 cl17.2.2.1.1, ob_s, e0, if_neg (by rw [li_le (by omega) (by omega)]; omega), e_R4, ob_s, rc_X1 cl17.1, ob_s, pr, ob_s, t_36, ob_s, ep, st, ob_s, nI_1]
      refine ih fu (k + 1) _ (by omega) (by omega) (fun r hr => by rw [u_r hr]; exact e3 r hr) (fun y hy => ?_)
      by_cases e : y = k
      · rw [e, u_e]
      · rw [u_k (by omega)]; exact e4 y (by omega)
  have fin : ∃ I', bb_X8_setPrices_30 32 18 0 (S0, I, J, x) = some ((), (S0, I', J, x)) ∧ (∀ r, r ≠ 38 → I' r = I r) ∧ ∀ y, y < NY → I' 38 (y * 1 + 0) = prcS I 18 y 0 := loop NY ab_fu 0 I (by omega) (ab_fu_big (by omega)) (fun _ _ => rfl) (fun y hy => by omega)
  have t1 : dd_X10_total 19 0 (S0, I, J, x) = some (sm (fun r => I (19 + 1) (r * 2 + 0)) 8, (S0, I, J, x)) := tb_total (t := 19) cl17.2.1 hC.1 li_0 (by omega)
  have t2 : dd_X10_total 39 0 (S0, I, J, x) = some (sm (fun r => I (39 + 1) (r * 2 + 0)) 8, (S0, I, J, x)) := tb_total (t := 39) si31.2.2.2.2.1 hI.2.2.2 li_0 (by omega)
  have z2 : sm (fun r => I (39 + 1) (r * 2 + 0)) 8 = 0 := by
    rw [sm_congr (g := fun _ => 0) (fun k hk => hz k hk), sm_zero]
  rw [z2] at t2
  unfold dd_X8_setPrices
  rw [d_R0, ob_s, t_18, ob_s, t1, ob_s]
  by_cases c : sm (fun r => I (19 + 1) (r * 2 + 0)) 8 ≤ 0
  · rw [if_pos c]; exact fin
  · have cn : ¬ sm (fun r => I (19 + 1) (r * 2 + 0)) 8 = 0 := fun z => c (by rw [z]; exact le_self _)
    rw [if_neg c, e_R5, ob_s, t_38, ob_s, t2, ob_s, if_neg cn]
    have e : (100 : Int32) * 0 / sm (fun r => I (19 + 1) (r * 2 + 0)) 8 = 0 := by
      rw [Int32.mul_zero, Int32.zero_div]
    dsimp only
    rw [e]; exact fin
theorem c_reset (hI : siI I 32) (hC : clI I 18) (hn : I 21 3 = nI NY) (h6 : NY ≤ 6) : ∃ I' J', dd_X8_reset 32 18 (S0, I, J, x) = some ((), (S0, I', J', x)) ∧ (∀ r, r < 32 ∨ 42 ≤ r → I' r = I r) ∧ siI I' 32 ∧ I' 32 0 = 0 ∧ I' 32 1 = 0 ∧ I' 35 3 = 0 ∧ (∀ h, h < 8 → ∀ w, w < 2 → I' 40 (h * 2 + w) = 0) ∧ (∀ y, y < NY → I' 38 (y * 1 + 0) = prcS I 18 y 0) ∧ (∀ r, r ≠ 41 → J' r = J r) ∧ ∀ k, k < 6 → J' 41 k = 0 := by
  have p0 : ∀ (Ia : Nat → Nat → Int32) (v : Int32), ab_pI (S0, Ia, J, x) 8 32 0 v = some (S0, ab_u Ia 32 0 v, J, x) := fun Ia v => op_pI v si31.1 rfl
  have p1 : ∀ (Ia : Nat → Nat → Int32) (v : Int32), ab_pI (S0, Ia, J, x) 8 32 1 v = some (S0, ab_u Ia 32 1 v, J, x) := fun Ia v => op_pI v si31.1 rfl
  obtain ⟨I1, a1, a2, a3, a4, a5⟩ := tb_clearE (I := ab_u (ab_u I 32 0 0) 32 1 0) (J := J) (x := x) (t := 33) si31.2.1
  obtain ⟨I2, b1, b2, b3, b4, b5⟩ := tb_clearE (I := I1) (J := J) (x := x) (t := 35) si31.2.2.1
  obtain ⟨I3, c1, c2, c3, c4, c5⟩ := tb_clearE (I := I2) (J := J) (x := x) (t := 39) si31.2.2.2.2.1
  obtain ⟨J4, d1, d2, d3⟩ := c_fillJ (I := I3) (J := J) (x := x)
  have off : ∀ r, r < 32 ∨ 42 ≤ r → I3 r = I r := fun r hr => by
    rw [c2 r (by omega) (by omega), b2 r (by omega) (by omega), a2 r (by omega) (by omega), u_r (by omega), u_r (by omega)]
  have hI3 : siI I3 32 := by
    have q := hI
    unfold siI tI at q ⊢
    refine ⟨⟨?_, ?_⟩, ⟨?_, ?_⟩, ⟨?_, ?_⟩, ⟨?_, ?_⟩⟩
    · rw [c2 (32 + 1) (by omega) (by omega), b2 (32 + 1) (by omega) (by omega), a5 0 (by omega), u_r (by omega), u_r (by omega)]; exact q.1.1
    · rw [c2 (32 + 1) (by omega) (by omega), b2 (32 + 1) (by omega) (by omega), a5 1 (by omega), u_r (by omega), u_r (by omega)]; exact q.1.2
    · rw [c2 (32 + 3) (by omega) (by omega), b5 0 (by omega), a2 35 (by omega) (by omega), u_r (by omega), u_r (by omega)]; exact q.2.1.1
    · rw [c2 (32 + 3) (by omega) (by omega), b5 1 (by omega), a2 35 (by omega) (by omega), u_r (by omega), u_r (by omega)]; exact q.2.1.2
    · rw [c2 (32 + 5) (by omega) (by omega), b2 (32 + 5) (by omega) (by omega), a2 (32 + 5) (by omega) (by omega), u_r (by omega), u_r (by omega)]; exact q.2.2.1.1
    · rw [c2 (32 + 5) (by omega) (by omega), b2 (32 + 5) (by omega) (by omega), a2 (32 + 5) (by omega) (by omega), u_r (by omega), u_r (by omega)]; exact q.2.2.1.2
    · rw [c5 0 (by omega), b2 39 (by omega) (by omega), a2 39 (by omega) (by omega), u_r (by omega), u_r (by omega)]; exact q.2.2.2.1
    · rw [c5 1 (by omega), b2 39 (by omega) (by omega), a2 39 (by omega) (by omega), u_r (by omega), u_r (by omega)]; exact q.2.2.2.2
  have hC3 : clI I3 18 := by
    unfold clI tI at hC ⊢
    rw [off (18 + 1) (by omega), off (18 + 3) (by omega), off (18 + 5) (by omega), off (18 + 7) (by omega), off (18 + 9) (by omega)]
    exact hC
  obtain ⟨I4, e1, e2, e3⟩ := c_prices0 (I := I3) (J := J4) (x := x) hI3 hC3 (by rw [off 21 (by omega)]; exact hn) h6 (fun h hh => c3 (h * 2 + 0) (by omega))
  have f6 : ∀ (Ia : Nat → Nat → Int32), ab_fR (S0, Ia, J, x) 8 32 6 = some 41 := fun _ => op_fR si31.1 rfl
  refine ⟨I4, J4, ?_, fun r hr => (e2 r (by omega)).trans (off r hr), ?_, ?_, ?_, ?_, fun h hh w hw => ?_, fun y hy => ?_, d2, d3⟩
  · unfold dd_X8_reset
    rw [p0, ob_s, p1, ob_s, e_R2, ob_s, t_32, ob_s, a1, ob_s, e_R3, ob_s, t_34, ob_s, b1, ob_s, e_R5, ob_s, t_38, ob_s, c1, ob_s, f6, ob_s, d1, ob_s, e_rc, ob_s, e1, ob_s]
  · unfold siI tI at hI3 ⊢
    rw [e2 (32 + 1) (by omega), e2 (32 + 3) (by omega), e2 (32 + 5) (by omega), e2 (32 + 7) (by omega)]
    exact hI3
  · rw [e2 32 (by omega), c2 32 (by omega) (by omega), b2 32 (by omega) (by omega), a2 32 (by omega) (by omega), u_k (by omega), u_e]
  · rw [e2 32 (by omega), c2 32 (by omega) (by omega), b2 32 (by omega) (by omega), a2 32 (by omega) (by omega), u_e]
  · rw [e2 35 (by omega), c2 35 (by omega) (by omega)]; exact b4
  · rw [e2 40 (by omega)]; exact c3 _ (by omega)
  · rw [e3 y hy]
    unfold prcS gt gg
    rw [off (18 + 3 + 1) (by omega), off (18 + 9 + 1) (by omega)]
/-- the draft becomes the cloud -/
theorem c_copyCloud {n : Nat} (hC : clI I 18) (hn : I 15 1 = nI n) (n8 : n ≤ 800) : ∃ I', dd_X1_copyFrom 18 4 (S0, I, J, x) = some ((), (S0, I', J, x)) ∧ (∀ r, r < 19 ∨ 31 ≤ r → I' r = I r) ∧ clI I' 18 ∧ (I' 19 3 = I 5 3 ∧ I' 21 3 = I 7 3 ∧ I' 23 3 = I 9 3 ∧ I' 25 3 = I 11 3) ∧ (∀ b, b < 16 → I' 20 b = I 6 b) ∧ (∀ b, b < 18 → I' 22 b = I 8 b) ∧ (∀ b, b < 6 → I' 24 b = I 10 b) ∧ (∀ b, b < 48 → I' 26 b = I 12 b) ∧ (∀ b, b < 3 → I' 28 b = I 14 b) ∧ I' 29 1 = nI n ∧ ∀ k, k < n → I' 30 k = I 16 k := by
  have t12 : tb 13 1 3 := ⟨rfl, rfl, by decide, by decide⟩
  obtain ⟨I1, a1, a2, a3, a4, a5⟩ := tb_copyE (I := I) (J := J) (x := x) (t := 19) (u := 5) cl17.2.1 tbH (by omega) (by omega) (by omega)
  obtain ⟨I2, b1, b2, b3, b4, b5⟩ := tb_copyE (I := I1) (J := J) (x := x) (t := 21) (u := 7) cl17.2.2.1 tbY (by omega) (by omega) (by omega)
  obtain ⟨I3, c1, c2, c3, c4, c5⟩ := tb_copyE (I := I2) (J := J) (x := x) (t := 23) (u := 9) cl17.2.2.2.1 tbE (by omega) (by omega) (by omega)
  obtain ⟨I4, d1, d2, d3, d4, d5⟩ := tb_copyE (I := I3) (J := J) (x := x) (t := 25) (u := 11) cl17.2.2.2.2.1 tbRv (by omega) (by omega) (by omega)
  obtain ⟨I5, e1, e2, e3, e4, e5⟩ := tb_copyE (I := I4) (J := J) (x := x) (t := 27) (u := 13) cl17.2.2.2.2.2.1 t12 (by omega) (by omega) (by omega)
  have k28 : ok_X9 29 := rfl
  have s29 : S0[30]? = some (1, 800, []) := rfl
  have low : ∀ r, r < 19 → I5 r = I r := fun r hr => by rw [e2 r (by omega) (by omega), d2 r (by omega) (by omega), c2 r (by omega) (by omega), b2 r (by omega) (by omega), a2 r (by omega) (by omega)]
  have n14 : I5 15 1 = nI n := by rw [low 15 (by omega)]; exact hn
  have cpo : ∀ r, r ≠ 30 → ab_cp (ab_u I5 29 1 (nI n)) 16 0 30 0 n r = ab_u I5 29 1 (nI n) r := fun r hr => by
    funext k
    unfold ab_cp
    rw [if_neg (fun w => hr w.1)]
  have cpi : ∀ k, k < n → ab_cp (ab_u I5 29 1 (nI n)) 16 0 30 0 n 30 k = I5 16 k := fun k hk => by
    unfold ab_cp
    rw [if_pos ⟨rfl, by omega, by omega⟩, show 0 + (k - 0) = k by omega, u_r (by omega)]
  have sm : dd_X9_copyFrom 29 15 (S0, I5, J, x) = some ((), (S0, ab_cp (ab_u I5 29 1 (nI n)) 16 0 30 0 n, J, x)) := by
    unfold dd_X9_copyFrom
    have e0 : (if (0 : Int32) < nI n then nI n else 0) = nI n := by
      by_cases q : n = 0
      · rw [q]; rfl
      · rw [if_pos (by rw [li_0, li_lt (by omega) (by omega)]; omega)]
    have e8 : (if nI 800 < nI 800 then nI 800 else nI 800) = nI 800 := by split <;> rfl
    have en : (if nI 800 < nI n then nI 800 else nI n) = nI n := if_neg (by rw [li_lt (by omega) (by omega)]; omega)
    rw [fR_X9_0 k28, ob_s, op_len s29, ob_s, fR_X9_0 okS14, ob_s, op_len sh_15, ob_s, fI_X9_1 okS14, ob_s, n14, e8, en, e0, pI_X9_1 k28, ob_s, fR_X9_0 okS14, ob_s, fR_X9_0 k28, ob_s, fI_X9_1 k28, ob_s, u_e, op_cpI sh_15 s29 li_0 li_0 rfl (by omega) (by omega) (by omega) (by omega), ob_s]
  have off : ∀ r, r ≠ 29 → r ≠ 30 → ab_cp (ab_u I5 29 1 (nI n)) 16 0 30 0 n r = I5 r := fun r p1 p2 => by rw [cpo r p2, u_r p1]
  have q1 : ∀ k, I5 19 k = I1 19 k := fun k => by rw [e2 19 (by omega) (by omega), d2 19 (by omega) (by omega), c2 19 (by omega) (by omega), b2 19 (by omega) (by omega)]
  have q2 : ∀ k, I5 21 k = I2 21 k := fun k => by rw [e2 21 (by omega) (by omega), d2 21 (by omega) (by omega), c2 21 (by omega) (by omega)]
  have q3 : ∀ k, I5 23 k = I3 23 k := fun k => by rw [e2 23 (by omega) (by omega), d2 23 (by omega) (by omega)]
  have q4 : ∀ k, I5 25 k = I4 25 k := fun k => by rw [e2 25 (by omega) (by omega)]
  refine ⟨ab_cp (ab_u I5 29 1 (nI n)) 16 0 30 0 n, ?_, fun r hr => ?_, ?_, ⟨?_, ?_, ?_, ?_⟩, fun b hb => ?_, fun b hb => ?_, fun b hb => ?_, fun b hb => ?_, fun b hb => ?_, ?_, fun k hk => ?_⟩
  · have g0 : ∀ (Ia : Nat → Nat → Int32), ab_fR (S0, Ia, J, x) 1 4 0 = some 5 := fun _ => op_fR (fs := [some (some 5), some (some 7), some (some 9), some (some 11), some (some 13), some (some 15)]) rfl rfl
    have g1 : ∀ (Ia : Nat → Nat → Int32), ab_fR (S0, Ia, J, x) 1 4 1 = some 7 := fun _ => op_fR (fs := [some (some 5), some (some 7), some (some 9), some (some 11), some (some 13), some (some 15)]) rfl rfl
    have g2 : ∀ (Ia : Nat → Nat → Int32), ab_fR (S0, Ia, J, x) 1 4 2 = some 9 := fun _ => op_fR (fs := [some (some 5), some (some 7), some (some 9), some (some 11), some (some 13), some (some 15)]) rfl rfl
    have g3 : ∀ (Ia : Nat → Nat → Int32), ab_fR (S0, Ia, J, x) 1 4 3 = some 11 := fun _ => op_fR (fs := [some (some 5), some (some 7), some (some 9), some (some 11), some (some 13), some (some 15)]) rfl rfl
    have g4 : ∀ (Ia : Nat → Nat → Int32), ab_fR (S0, Ia, J, x) 1 4 4 = some 13 := fun _ => op_fR (fs := [some (some 5), some (some 7), some (some 9), some (some 11), some (some 13), some (some 15)]) rfl rfl
    have g26 : ∀ (Ia : Nat → Nat → Int32), ab_rc (S0, Ia, J, x) 10 27 = some () := fun _ => op_rc cl17.2.2.2.2.2.1.1
    have d5' : ∀ (Ia : Nat → Nat → Int32), ab_fR (S0, Ia, J, x) 1 18 5 = some 29 := fun _ => op_fR cl17.1 rfl
    unfold dd_X1_copyFrom
    rw [d_R0, ob_s, g0, ob_s, t_18, ob_s, a1, ob_s, d_R1, ob_s, g1, ob_s, t_20, ob_s, b1, ob_s, d_R2, ob_s, g2, ob_s, t_22, ob_s, c1, ob_s, d_R3, ob_s, g3, ob_s, t_24, ob_s, d1, ob_s, d_R4, ob_s, g4, ob_s, g26, ob_s, e1, ob_s, d5', ob_s, d3_s5, ob_s, rc_X9 k28, ob_s, sm, ob_s]
  · rw [off r (by omega) (by omega), e2 r (by omega) (by omega), d2 r (by omega) (by omega), c2 r (by omega) (by omega), b2 r (by omega) (by omega), a2 r (by omega) (by omega)]
  · unfold clI tI at hC ⊢
    rw [off (18 + 1) (by omega) (by omega), off (18 + 3) (by omega) (by omega), off (18 + 5) (by omega) (by omega), off (18 + 7) (by omega) (by omega), off (18 + 9) (by omega) (by omega)]
    refine ⟨⟨?_, ?_⟩, ⟨?_, ?_⟩, ⟨?_, ?_⟩, ⟨?_, ?_⟩, ⟨?_, ?_⟩⟩
    · rw [q1, a5 0 (by omega)]; exact hC.1.1
    · rw [q1, a5 1 (by omega)]; exact hC.1.2
    · rw [q2, b5 0 (by omega), a2 21 (by omega) (by omega)]; exact hC.2.1.1
    · rw [q2, b5 1 (by omega), a2 21 (by omega) (by omega)]; exact hC.2.1.2
    · rw [q3, c5 0 (by omega), b2 23 (by omega) (by omega), a2 23 (by omega) (by omega)]; exact hC.2.2.1.1
    · rw [q3, c5 1 (by omega), b2 23 (by omega) (by omega), a2 23 (by omega) (by omega)]; exact hC.2.2.1.2
    · rw [q4, d5 0 (by omega), c2 25 (by omega) (by omega), b2 25 (by omega) (by omega), a2 25 (by omega) (by omega)]; exact hC.2.2.2.1.1
    · rw [q4, d5 1 (by omega), c2 25 (by omega) (by omega), b2 25 (by omega) (by omega), a2 25 (by omega) (by omega)]; exact hC.2.2.2.1.2
    · rw [e5 0 (by omega), d2 27 (by omega) (by omega), c2 27 (by omega) (by omega), b2 27 (by omega) (by omega), a2 27 (by omega) (by omega)]; exact hC.2.2.2.2.1
    · rw [e5 1 (by omega), d2 27 (by omega) (by omega), c2 27 (by omega) (by omega), b2 27 (by omega) (by omega), a2 27 (by omega) (by omega)]; exact hC.2.2.2.2.2
  · rw [off 19 (by omega) (by omega), q1, a4]
  · rw [off 21 (by omega) (by omega), q2, b4, a2 7 (by omega) (by omega)]
  · rw [off 23 (by omega) (by omega), q3, c4, b2 9 (by omega) (by omega), a2 9 (by omega) (by omega)]
  · rw [off 25 (by omega) (by omega), q4, d4, c2 11 (by omega) (by omega), b2 11 (by omega) (by omega), a2 11 (by omega) (by omega)]
  · rw [off 20 (by omega) (by omega), e2 20 (by omega) (by omega), d2 20 (by omega) (by omega), c2 20 (by omega) (by omega), b2 20 (by omega) (by omega)]; exact a3 b (by omega)
  · rw [off 22 (by omega) (by omega), e2 22 (by omega) (by omega), d2 22 (by omega) (by omega), c2 22 (by omega) (by omega), b3 b (by omega), a2 (7 + 1) (by omega) (by omega)]
  · rw [off 24 (by omega) (by omega), e2 24 (by omega) (by omega), d2 24 (by omega) (by omega), c3 b (by omega), b2 (9 + 1) (by omega) (by omega), a2 (9 + 1) (by omega) (by omega)]
  · rw [off 26 (by omega) (by omega), e2 26 (by omega) (by omega), d3 b (by omega), c2 (11 + 1) (by omega) (by omega), b2 (11 + 1) (by omega) (by omega), a2 (11 + 1) (by omega) (by omega)]
  · rw [off 28 (by omega) (by omega), e3 b (by omega), d2 (13 + 1) (by omega) (by omega), c2 (13 + 1) (by omega) (by omega), b2 (13 + 1) (by omega) (by omega), a2 (13 + 1) (by omega) (by omega)]
  · rw [cpo 29 (by omega), u_e]
  · rw [cpi k hk, low 16 (by omega)]
end BG
