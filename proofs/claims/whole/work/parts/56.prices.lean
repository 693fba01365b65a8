/-! ===== the model's row as a whole; prices ===== -/
def jr (J : Nat → Nat → Int64) (f : Nat → Int64) : Nat → Nat → Int64 := fun r k => if r = 201 then f k else J r k
theorem jr_at {J : Nat → Nat → Int64} {f : Nat → Int64} : jr J f 201 = f := rfl
theorem jr_off {J : Nat → Nat → Int64} {f : Nat → Int64} {r : Nat} (h : r ≠ 201) : jr J f r = J r := by
  funext k
  exact if_neg h
theorem jr_u {J : Nat → Nat → Int64} {f : Nat → Int64} {k : Nat} {v : Int64} : ab_u (jr J f) 201 k v = jr J (fu f k v) := by
  funext a b
  unfold ab_u jr fu
  by_cases h : a = 201 <;> by_cases h2 : b = k <;> simp [h, h2]
theorem jr_id (J : Nat → Nat → Int64) : jr J (J 201) = J := by
  funext a b
  unfold jr
  by_cases h : a = 201
  · rw [if_pos h, h]
  · rw [if_neg h]
theorem jr_jr (J : Nat → Nat → Int64) (f g : Nat → Int64) : jr (jr J f) g = jr J g := by
  funext a b
  unfold jr
  by_cases h : a = 201 <;> simp [h]
/-- a loop whose steps leave one of several states -/
theorem lp_ex {σ ρ : Type} (B : Nat → Int32 → σ → Option ρ) (N : Nat) (P : Nat → σ → Prop) (hs : ∀ n j a, j < N → P j a → ∃ a', B (n + 1) (nI j) a = B n (nI j + 1) a' ∧ P (j + 1) a') :
    ∀ (k n j : Nat) (a : σ), j + k = N → k < n → P j a → ∃ a' n', B n (nI j) a = B (n' + 1) (nI N) a' ∧ P N a' := by
  intro k
  induction k with
  | zero =>
    intro n j a h1 h2 h3
    obtain ⟨n, rfl⟩ : ∃ q, n = q + 1 := ⟨n - 1, by omega⟩
    have e : j = N := by omega
    subst e
    exact ⟨a, n, rfl, h3⟩
  | succ k ih =>
    intro n j a h1 h2 h3
    obtain ⟨n, rfl⟩ : ∃ q, n = q + 1 := ⟨n - 1, by omega⟩
    obtain ⟨a', e, hp⟩ := hs n j a (by omega) h3
    rw [e, nI_1]
    exact ih n (j + 1) a' (by omega) (by omega) hp
theorem lp_ex0 {σ ρ : Type} (B : Nat → Int32 → σ → Option ρ) (N : Nat) (hN : N < 900000) (P : Nat → σ → Prop) (hs : ∀ n j a, j < N → P j a → ∃ a', B (n + 1) (nI j) a = B n (nI j + 1) a' ∧ P (j + 1) a') (a : σ) (h0 : P 0 a) :
    ∃ a' n', B ab_fu 0 a = B (n' + 1) (nI N) a' ∧ P N a' := lp_ex B N P hs N ab_fu 0 a (by omega) (ab_fu_big (by omega)) h0
section PR
variable {I : Nat → Nat → Int32} {J : Nat → Nat → Int64} {x : Nat} {NH NY NE NR s : Nat} {f f' : Nat → Int64}
def useF (I : Nat → Nat → Int32) (f : Nat → Int64) (NH : Nat) : Int32 := if mall I NH = 0 then 0 else (100 * mload I f) / mall I NH
def prcF (I : Nat → Nat → Int32) (u : Int32) (t : Nat) : Int32 := if mt I t 2 ≤ (mt I t 2 * (I 202 4 + ((I 202 6 * u) / 100))) / 100 then mt I t 2 else (mt I t 2 * (I 202 4 + ((I 202 6 * u) / 100))) / 100
def prF (I : Nat → Nat → Int32) (NH NY : Nat) (f : Nat → Int64) : Nat → Int64 := itr (fun t g => fu g (2 + t) (prcF I (useF I f NH) t).toInt64) 0 NY f
theorem le_self (a : Int32) : a ≤ a := Int32.le_refl a
theorem m_prE (hc : mc I NH NY NE NR) (u : Int32) (n : Nat) : bb_X12_setsPrices_25 (n + 1) 200 u (nI NY) (S0, I, J, x) = some ((), (S0, I, J, x)) := by
  have e0 := hc.1.2.1
  rw [bb_X12_setsPrices_25, m_R2, ob_s, m_to1, ob_s, e0, if_pos (le_self _)]
theorem m_prS (hc : mc I NH NY NE NR) (u : Int32) (n t : Nat) (ht : t < NY) (g : Nat → Int64) : bb_X12_setsPrices_25 (n + 1) 200 u (nI t) (S0, I, jr J g, x) = bb_X12_setsPrices_25 n 200 u (nI t + 1) (S0, I, jr J (fu g (2 + t) (prcF I u t).toInt64), x) := by
  have h6 := hc.2.2.1
  have e2 : (2 : Int32) + nI t = nI (2 + t) := li_add 2 _
  have e0 := hc.1.2.1
  have hn : ¬ nI NY ≤ nI t := by rw [li_le (by omega) (by omega)]; omega
  rw [bb_X12_setsPrices_25, m_R2, ob_s, m_to1, ob_s, e0, if_neg hn, m_R4, ob_s, m_t2 (show t < 6 by omega), ob_s, ob_s, m_to4, ob_s, ob_s, m_to6, ob_s, if_neg n100, if_neg n100, m_R1, ob_s]
  unfold prcF bb_X12_setsPrices_97
  by_cases hh : mt I t 2 ≤ (mt I t 2 * (I 202 4 + ((I 202 6 * u) / 100))) / 100
  · rw [if_pos hh, if_pos hh, e2, m_snow _ (show 2 + t < 116 by omega), ob_s, jr_u]
  · rw [if_neg hh, if_neg hh, e2, m_snow _ (show 2 + t < 116 by omega), ob_s, jr_u]
theorem m_pricesL (hc : mc I NH NY NE NR) (u : Int32) : bb_X12_setsPrices_22 200 u (S0, I, jr J f, x) = some ((), (S0, I, jr J (itr (fun t g => fu g (2 + t) (prcF I u t).toInt64) 0 NY f), x)) := by
  have h6 := hc.2.2.1
  have hN : NY < 900000 := by omega
  have key := lp_up0 (fun n k g => bb_X12_setsPrices_25 n 200 u k (S0, I, jr J g, x)) NY hN (fun t g => fu g (2 + t) (prcF I u t).toInt64) (fun g => some ((), (S0, I, jr J g, x))) (fun n t g ht => m_prS hc u n t ht g) (fun n g => m_prE hc u n) f
  exact key
theorem m_prices (hc : mc I NH NY NE NR) (hw : wfs NH NY NE f) : dd_X12_setsPrices 200 (S0, I, jr J f, x) = some ((), (S0, I, jr J (prF I NH NY f), x)) := by
  have h6 := hc.2.2.1
  unfold dd_X12_setsPrices prF useF
  simp only [ob_s, m_rc, m_R1, m_R2, m_R3, m_R4, m_R5, m_R6, m_R7, m_R8, m_R9, m_F0, m_all hc]
  by_cases h0 : mall I NH = 0
  · rw [if_pos h0, if_pos h0, m_pricesL hc]
  · rw [if_neg h0, if_neg h0]
    have hl : dd_X12_loadCpu 200 (S0, I, jr J f, x) = some (mload I f, (S0, I, jr J f, x)) := @m_load I (jr J f) x NH NY NE hw h6
    simp only [ob_s, m_rc, m_R1, m_R2, m_R3, m_R4, m_R5, m_R6, m_R7, m_R8, m_R9, m_F0, hl, if_neg h0, m_pricesL hc]
theorem prF_at (t : Nat) (ht : t < NY) : prF I NH NY f (2 + t) = (prcF I (useF I f NH) t).toInt64 := by
  have := itr_inv (f := fun t g => fu g (2 + t) (prcF I (useF I f NH) t).toInt64) (fun j g => ∀ t, t < j → g (2 + t) = (prcF I (useF I f NH) t).toInt64) NY 0 f (fun t h => by omega) (fun i g _ _ hg t h => by
    by_cases e : t = i
    · rw [e]; exact fu_e
    · show fu g (2 + i) _ (2 + t) = _
      rw [fu_n (by omega)]; exact hg t (by omega))
  exact this t (by omega)
theorem prF_off (k : Nat) (hk : k < 2 ∨ 2 + NY ≤ k) : prF I NH NY f k = f k := by
  have := itr_inv (f := fun t g => fu g (2 + t) (prcF I (useF I f NH) t).toInt64) (fun _ g => g k = f k) NY 0 f rfl (fun i g _ hi hg => by
    show fu g (2 + i) _ k = _
    rw [fu_n (by omega)]; exact hg)
  exact this
/-- rows that differ in prices and spendings alone -/
def op (f f' : Nat → Int64) : Prop := ∀ k, k < 2 ∨ 14 ≤ k → f' k = f k
theorem op_vi (h : op f f') (i w : Nat) : vi f' i w = vi f i w := h _ (by omega)
theorem op_rn (h : op f f') (i : Nat) : rn f' i = rn f i := by unfold rn; rw [op_vi h]
theorem op_rq (h : op f f') : nq f' = nq f ∧ bq f' = bq f ∧ vq f' = vq f := rq_congr (h 1 (by omega)) (fun k hk => h k (by omega))
theorem op_lod (h : op f f') (I : Nat → Nat → Int32) (k w : Nat) : lod I f' k w = lod I f k w := by
  unfold lod
  refine sm_congr (fun i hi => ?_)
  rw [op_rn h]
  unfold ho ty
  rw [op_vi h, op_vi h]
theorem sr_op {I' : Nat → Nat → Int32} (hr : sr I NY s f) (h31 : 32 ≤ s) (hs : s < 181) (h : op f f') (hI : ∀ r, r ≠ s + 6 → I' r = I r) (hp : ∀ y, y < NY → gp I' s y = (f' (2 + y)).toInt32) : sr I' NY s f' := by
  have ⟨e1, e2, e3⟩ := op_rq h
  refine ⟨?_, ?_, ?_, fun j h12 hrn => ?_, hp, fun k hk w hw => ?_, ?_, fun r hr1 w hw => ?_⟩
  · have q := hr.1
    unfold siI tI at q ⊢
    rw [hI (s + 1) (by omega), hI (s + 3) (by omega), hI (s + 5) (by omega), hI (s + 7) (by omega)]
    exact q
  · rw [hI s (by omega), hr.2.1]
    unfold clk
    rw [h 0 (by omega)]
  · rw [hI s (by omega), hr.2.2.1]
    exact sets_congr (fun j _ => (op_rn h j).symm)
  · rw [op_rn h] at hrn
    have q := hr.2.2.2.1 j h12 hrn
    rw [op_vi h, op_vi h, op_vi h, op_vi h, op_vi h, op_vi h]
    unfold gi at q ⊢
    rw [hI (s + 1 + 1) (by omega)]
    exact q
  · have q := hr.2.2.2.2.2.1 k hk w hw
    rw [lod_I (hI 204 (by omega)), op_lod h]
    unfold gl at q ⊢
    rw [hI (s + 7 + 1) (by omega)]
    exact q
  · rw [hI (s + 3) (by omega), e1]; exact hr.2.2.2.2.2.2.1
  · rw [e1] at hr1 ⊢
    rw [e2, e3, ← hr.2.2.2.2.2.2.2 r hr1 w hw]
    unfold gq
    rw [hI (s + 3 + 1) (by omega)]
theorem cl_prcF (hl : clR I NH NY NE NR) {y : Nat} (hy : y < NY) (u : Int32) : prcS I 18 y u = prcF I u y := by
  unfold prcS prcF
  rw [hl.2.2.2.2.1 y hy 2 (by omega), hl.2.2.2.2.2.2.2.1, hl.2.2.2.2.2.2.2.2.2]
  by_cases h : mt I y 2 ≤ (mt I y 2 * (I 202 4 + ((I 202 6 * u) / 100))) / 100
  · rw [if_pos h, if_neg (Int32.not_lt.mpr h)]
  · rw [if_neg h, if_pos (Int32.not_le.mp h)]
theorem clR_onl {I' : Nat → Nat → Int32} (hl : clR I NH NY NE NR) (ho : onl s I I') (h31 : 32 ≤ s) (hs : s < 181) : clR I' NH NY NE NR := by
  unfold clR clI tI gh gt ge gr gg mh mt mr at hl ⊢
  simp only [Nat.reduceAdd] at hl ⊢
  rw [ho 19 (by omega), ho 21 (by omega), ho 23 (by omega), ho 25 (by omega), ho 27 (by omega), ho 20 (by omega), ho 22 (by omega), ho 24 (by omega), ho 26 (by omega), ho 28 (by omega), ho 202 (by omega), ho 203 (by omega), ho 204 (by omega), ho 205 (by omega), ho 206 (by omega)]
  exact hl
theorem mc_onl {I' : Nat → Nat → Int32} (hc : mc I NH NY NE NR) (ho : onl s I I') (hs : s < 181) : mc I' NH NY NE NR := by
  unfold mc at hc ⊢
  rw [ho 202 (by omega)]
  exact hc
theorem mrg_onl {I' : Nat → Nat → Int32} (hg : mrg I NH NY NE NR) (ho : onl s I I') (hs : s < 181) : mrg I' NH NY NE NR := by
  unfold mrg re ry mh mt mr at hg ⊢
  rw [ho 202 (by omega), ho 203 (by omega), ho 204 (by omega), ho 205 (by omega), ho 206 (by omega)]
  exact hg
theorem si_prices (ht : siT s) (h31 : 32 ≤ s) (hs : s < 181) (hc : mc I NH NY NE NR) (hg : mrg I NH NY NE NR) (hl : clR I NH NY NE NR) (hw : wfs NH NY NE f) (hr : sr I NY s f) :
    ∃ I', dd_X8_setPrices s 18 (S0, I, J, x) = some ((), (S0, I', J, x)) ∧ onl s I I' ∧ sr I' NY s (prF I NH NY f) := by
  have h8 := hc.2.1
  have h6 := hc.2.2.1
  have key : ∃ I', bb_X8_setPrices_30 s 18 (useF I f NH) (S0, I, J, x) = some ((), (S0, I', J, x)) ∧ onl s I I' ∧ sr I' NY s (prF I NH NY f) := by
    unfold bb_X8_setPrices_30
    obtain ⟨I', n', e, hI', hp⟩ := lp_ex0 (fun n k I' => bb_X8_setPrices_34 n s 18 (useF I f NH) k (S0, I', J, x)) NY (by omega) (fun j I' => (∀ r, r ≠ s + 6 → I' r = I r) ∧ ∀ y, y < j → gp I' s y = prcF I (useF I f NH) y) (fun n y I' hy hP => by
      have o : onl s I I' := fun r hr => hP.1 r (by omega)
      have hl' := clR_onl hl o h31 hs
      have hsi : siI I' s := by
        have q := hr.1
        unfold siI tI at q ⊢
        rw [hP.1 (s + 1) (by omega), hP.1 (s + 3) (by omega), hP.1 (s + 5) (by omega), hP.1 (s + 7) (by omega)]
        exact q
      refine ⟨ab_u I' (s + 5 + 1) (y * 1 + 0) (prcF I (useF I f NH) y), ?_, fun r hr => ?_, fun z hz => ?_⟩
      · show bb_X8_setPrices_34 _ _ _ _ _ _ = _
        rw [bb_X8_setPrices_34]
        have hsz : I' (18 + 3) 3 = nI NY := hl'.2.1.2.1
        simp only [fR_X1_1 cl17.1, ob_s, fI_X10_3 cl17.2.2.1.1, hsz]
        rw [if_neg (by rw [li_le (by omega) (by omega)]; omega)]
        simp only [fR_X8_4 ht.1, ob_s, rc_X1 cl17.1, cl_prc cl17 hl'.1 (useF I f NH) rfl (show y < 6 by omega), rc_X10 ht.2.2.2.1.1]
        rw [tb_set _ ht.2.2.2.1 hsi.2.2.1 rfl li_0 (show y < 6 by omega) (by omega), ob_s, cl_prcF hl' hy]
        have ep : prcF I' (useF I f NH) y = prcF I (useF I f NH) y := by
          unfold prcF mt
          rw [hP.1 202 (by omega), hP.1 204 (by omega)]
        rw [ep]
      · rw [u_r (by omega)]; exact hP.1 r hr
      · unfold gp
        by_cases q : z = y
        · rw [q, u_e]
        · rw [u_k (by omega)]; exact hP.2 z (by omega)) I ⟨fun _ _ => rfl, fun y hy => by omega⟩
    have o : onl s I I' := fun r hr => hI' r (by omega)
    refine ⟨I', ?_, o, sr_op hr h31 hs (fun k hk => prF_off k (by omega)) hI' (fun y hy => ?_)⟩
    · refine e.trans ?_
      show bb_X8_setPrices_34 _ _ _ _ _ _ = _
      rw [bb_X8_setPrices_34]
      have hsz : I' (18 + 3) 3 = nI NY := (clR_onl hl o h31 hs).2.1.2.1
      simp only [fR_X1_1 cl17.1, ob_s, fI_X10_3 cl17.2.2.1.1, hsz]
      rw [if_pos (by rw [li_le (by omega) (by omega)]; omega)]
    · rw [hp y hy, prF_at y hy, Int32.toInt32_toInt64]
  obtain ⟨I', e, o, r⟩ := key
  refine ⟨I', ?_, o, r⟩
  unfold dd_X8_setPrices
  simp only [d_R0, ob_s, t_18]
  rw [tb_total cl17.2.1 hl.1.1 li_0 (by omega), ob_s]
  have e1 : sm (fun r => I (19 + 1) (r * 2 + 0)) 8 = mall I NH := tot_h hl h8
  show (if sm (fun r => I (19 + 1) (r * 2 + 0)) 8 ≤ 0 then _ else _) = _
  have qa := mall_is hg h8
  have hz : (mall I NH ≤ 0) = (mall I NH = 0) := by
    rw [qa.1, li_0, li_le (by omega) (by omega), li_eq (by omega) (by omega)]
    exact propext ⟨fun h => by omega, fun h => by omega⟩
  rw [e1]
  unfold useF at e
  by_cases h0 : mall I NH = 0
  · rw [if_pos h0] at e
    rw [if_pos (hz ▸ h0)]
    exact e
  · rw [if_neg h0] at e
    rw [if_neg (hz ▸ h0)]
    simp only [fR_X8_5 ht.1, ob_s, rc_X10 ht.2.2.2.2.1.1]
    rw [tb_total ht.2.2.2.2.1 hr.1.2.2.2 li_0 (by omega), ob_s]
    have e2 : sm (fun r => I (s + 7 + 1) (r * 2 + 0)) 8 = mload I f := tot_l hr hw h8
    show (if mall I NH = 0 then none else bb_X8_setPrices_30 s 18 ((100 * sm (fun r => I (s + 7 + 1) (r * 2 + 0)) 8) / mall I NH) (S0, I, J, x)) = _
    rw [if_neg h0, e2]
    exact e
end PR
