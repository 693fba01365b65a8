/-! ===== the fewest hosts: the class's answer ===== -/
/-- the running ones, in their order -/
def el (p : Nat → Bool) : Nat → Nat → Nat
  | 0, _ => 0
  | k + 1, j => if p k then (if j = cn p k then k else el p k j) else el p k j
theorem el_is {p : Nat → Bool} : ∀ {k j : Nat}, j < cn p k → el p k j < k ∧ p (el p k j) = true
  | 0, j, h => by cases h
  | k + 1, j, h => by
    rw [cn] at h
    rw [el]
    cases hp : p k with
    | false =>
      rw [hp] at h
      simp only [Bool.false_eq_true, if_false, Nat.add_zero] at h ⊢
      have := el_is (p := p) (k := k) (j := j) h
      exact ⟨by omega, this.2⟩
    | true =>
      rw [hp] at h
      simp only [if_true] at h ⊢
      by_cases e : j = cn p k
      · rw [if_pos e]; exact ⟨by omega, hp⟩
      · rw [if_neg e]
        have := el_is (p := p) (k := k) (j := j) (by omega)
        exact ⟨by omega, this.2⟩
theorem el_sum {p : Nat → Bool} (g : Nat → Nat) : ∀ k, sn (fun j => g (el p k j)) (cn p k) = sn (fun i => if p i then g i else 0) k
  | 0 => rfl
  | k + 1 => by
    have ih := el_sum (p := p) g k
    rw [sn, ← ih, cn]
    cases hp : p k with
    | false =>
      simp only [Bool.false_eq_true, if_false, Nat.add_zero]
      exact sn_congr (fun j _ => by rw [el, hp]; rfl)
    | true =>
      simp only [if_true]
      rw [sn]
      have e1 : sn (fun j => g (el p (k + 1) j)) (cn p k) = sn (fun j => g (el p k j)) (cn p k) := sn_congr (fun j hj => by
        rw [el, hp, if_pos rfl, if_neg (by omega)])
      have e2 : g (el p (k + 1) (cn p k)) = g k := by rw [el, hp, if_pos rfl, if_pos rfl]
      rw [e1, e2]
theorem cn_sn (p : Nat → Bool) : ∀ k, cn p k = sn (fun i => if p i then 1 else 0) k
  | 0 => rfl
  | k + 1 => by rw [cn, sn, cn_sn p k]
theorem sn_cut {g : Nat → Nat} {n : Nat} : ∀ d, sn (fun j => if j < n then g j else 0) (n + d) = sn g n
  | 0 => sn_congr (fun j hj => if_pos hj)
  | d + 1 => by
    rw [← Nat.add_assoc, sn, sn_cut d, if_neg (by omega)]
    omega
section PF
variable {I I' I0 I1 I2 I3 I4 : Nat → Nat → Int32} {J J' J1 J2 J3 J4 : Nat → Nat → Int64} {x : Nat} {NH NY NE NR s d u tp u' tp' n : Nat} {f g f' : Nat → Int64} {L st ta : Nat → Nat}
def nrf (f : Nat → Int64) : Nat := cn (rn f) 12
def tf (f : Nat → Int64) (j : Nat) : Nat := ty f (el (rn f) 12 j)
def hf (f : Nat → Int64) (j : Nat) : Nat := ho f (el (rn f) 12 j)
theorem nrf_le : nrf f ≤ 12 := cn_le _ _
theorem okF (h6 : NY ≤ 6) (hw : wfs NH NY NE f) : okT (tf f) (nrf f) := ⟨nrf_le, fun j hj => by
  have := el_is hj
  have := ty_lt hw this.1 this.2
  unfold tf
  omega⟩
theorem smt_set {g : Nat → Nat} {n : Nat} (hn : n ≤ 12) (q : Nat → Bool) : smt g (bs (fun j => decide (j < n) && q j) 12) = sn (fun j => if q j then g j else 0) n := by
  unfold smt
  have e : sn (fun i => if (bs (fun j => decide (j < n) && q j) 12).testBit i = true then g i else 0) 12 = sn (fun j => if j < n then (if q j then g j else 0) else 0) (n + (12 - n)) := by
    rw [show n + (12 - n) = 12 by omega]
    refine sn_congr (fun i hi => ?_)
    rw [bs_bit]
    by_cases a : i < n <;> cases q i <;> simp [a, hi]
  rw [e, sn_cut]
theorem fl_bs {n : Nat} (hn : n ≤ 12) : fl n = bs (fun j => decide (j < n) && true) 12 := by
  refine Nat.eq_of_testBit_eq (fun j => ?_)
  rw [fl_bit, bs_bit]
  by_cases a : j < n
  · have : j < 12 := by omega
    simp [a, this]
  · simp [a]
theorem Lm_f : Lm (tf f) (nrf f) = Ln f := by
  funext t
  unfold Lm ct
  rw [fl_bs nrf_le, smt_set nrf_le]
  have e := el_sum (p := rn f) (fun i => if ty f i = t then 1 else 0) 12
  have e2 : sn (fun j => if true = true then (if tf f j = t then 1 else 0) else 0) (nrf f) = sn (fun j => if ty f (el (rn f) 12 j) = t then 1 else 0) (cn (rn f) 12) := sn_congr (fun j _ => rfl)
  rw [e2, e]
  unfold Ln
  rw [cn_sn]
  refine sn_congr (fun i _ => ?_)
  cases rn f i <;> by_cases h : ty f i = t <;> simp [h]
theorem smt_host (h w : Nat) : smt (fun j => tN I (tf f j) w) (bs (fun j => decide (j < nrf f) && decide (hf f j = h)) 12) = loN I f h w := by
  rw [smt_set nrf_le]
  have e := el_sum (p := rn f) (fun i => if ho f i = h then tN I (ty f i) w else 0) 12
  have e2 : sn (fun j => if decide (hf f j = h) = true then tN I (tf f j) w else 0) (nrf f) = sn (fun j => if ho f (el (rn f) 12 j) = h then tN I (ty f (el (rn f) 12 j)) w else 0) (cn (rn f) 12) := sn_congr (fun j _ => by
    unfold hf tf
    by_cases q : ho f (el (rn f) 12 j) = h <;> simp [q])
  rw [e2, e]
  unfold loN
  refine sn_congr (fun i _ => ?_)
  cases rn f i <;> by_cases q : ho f i = h <;> simp [q]
def usN (I : Nat → Nat → Int32) (f : Nat → Int64) (k : Nat) : Nat := sn (fun h => if loN I f h 0 = 0 then 0 else 1) k
theorem RM_use (hg : mrg I NH NY NE NR) (hw : wff I NH NY NE f) : ∀ k, k ≤ NH → RM (fitS (tf f) (Xf I) (Hf I)) k (bs (fun j => decide (j < nrf f) && decide (hf f j < k)) 12) (usN I f k)
  | 0, _ => by
    refine ⟨?_, rfl⟩
    refine Nat.eq_of_testBit_eq (fun j => ?_)
    rw [bs_bit]
    simp
  | k + 1, hk => by
    have ih := RM_use hg hw k (by omega)
    have hz : ∀ j, j < nrf f → hf f j = k → loN I f k 0 ≠ 0 := fun j hj hh z => by
      have e := el_is hj
      have hs := smt_host (I := I) (f := f) k 0
      rw [z] at hs
      have hb : (bs (fun j => decide (j < nrf f) && decide (hf f j = k)) 12).testBit j = true := by
        have : j < 12 := by have := nrf_le (f := f); omega
        rw [bs_bit]
        simp [hj, hh, this]
      have h2 := sn_pos (g := fun i => if (bs (fun j => decide (j < nrf f) && decide (hf f j = k)) 12).testBit i then tN I (tf f i) 0 else 0) (show j < 12 by have := nrf_le (f := f); omega)
      simp only [hb, if_true] at h2
      have h3 := (tN_is hg (ty_lt hw.2.2.1 e.1 e.2) (show 0 < 2 by omega)).2.1
      unfold smt at hs
      rw [hs] at h2
      unfold tf at h2
      omega
    by_cases c : loN I f k 0 = 0
    · refine Or.inl ?_
      have e1 : usN I f (k + 1) = usN I f k := by
        show usN I f k + (if loN I f k 0 = 0 then 0 else 1) = _
        rw [if_pos c]; omega
      have e2 : bs (fun j => decide (j < nrf f) && decide (hf f j < k + 1)) 12 = bs (fun j => decide (j < nrf f) && decide (hf f j < k)) 12 := bs_congr (fun j _ => by
        by_cases hj : j < nrf f
        · have : hf f j ≠ k := fun q => hz j hj q c
          have e : (hf f j < k + 1) = (hf f j < k) := propext ⟨fun _ => by omega, fun _ => by omega⟩
          simp only [e]
        · simp [hj])
      rw [e1, e2]; exact ih
    · refine Or.inr ⟨bs (fun j => decide (j < nrf f) && decide (hf f j < k)) 12, bs (fun j => decide (j < nrf f) && decide (hf f j = k)) 12, usN I f k, fun z => ?_, ?_, ?_, ⟨?_, ?_⟩, ?_, ih⟩
      · have hs := smt_host (I := I) (f := f) k 0
        rw [z, smt_0] at hs
        exact c hs.symm
      · refine Nat.eq_of_testBit_eq (fun j => ?_)
        rw [Nat.testBit_and, bs_bit, bs_bit, Nat.zero_testBit]
        by_cases a : hf f j = k
        · simp [a]
        · simp [a]
      · refine Nat.eq_of_testBit_eq (fun j => ?_)
        rw [Nat.testBit_or, bs_bit, bs_bit, bs_bit]
        by_cases a : hf f j < k
        · have a1 : hf f j < k + 1 := by omega
          have b : ¬ hf f j = k := by omega
          simp [a, a1, b]
        · by_cases b : hf f j = k
          · simp [b]
          · have a1 : ¬ hf f j < k + 1 := by omega
            simp [a, a1, b]
      · have q := hw.2.2.2.2.2.2 k (by omega) 0 (by omega)
        rw [fit_iff hg hw.2.2.1 (by omega) (by omega)] at q
        rw [show smt (fun j => Xf I (tf f j) 0) _ = loN I f k 0 from smt_host k 0]
        exact q
      · have q := hw.2.2.2.2.2.2 k (by omega) 1 (by omega)
        rw [fit_iff hg hw.2.2.1 (by omega) (by omega)] at q
        rw [show smt (fun j => Xf I (tf f j) 1) _ = loN I f k 1 from smt_host k 1]
        exact q
      · show usN I f k + (if loN I f k 0 = 0 then 0 else 1) = _
        rw [if_neg c]
theorem RM_full (hg : mrg I NH NY NE NR) (hw : wff I NH NY NE f) : RM (fitS (tf f) (Xf I) (Hf I)) NH (fl (nrf f)) (usN I f NH) := by
  have q := RM_use hg hw NH (Nat.le_refl _)
  have e : bs (fun j => decide (j < nrf f) && decide (hf f j < NH)) 12 = fl (nrf f) := by
    rw [fl_bs nrf_le]
    refine bs_congr (fun j _ => ?_)
    by_cases hj : j < nrf f
    · have e := el_is hj
      have : hf f j < NH := ho_lt hw.2.2.1 e.1 e.2
      simp [this]
    · simp [hj]
  rw [e] at q
  exact q
theorem use_is (hc : mc I NH NY NE NR) (hg : mrg I NH NY NE NR) (hw : wff I NH NY NE f) (hr : sr I NY 32 f) : useS I 32 = nI (usN I f NH) ∧ usN I f NH ≤ 8 := by
  have h8 := hc.2.1
  have e8 : usN I f 8 = usN I f NH := by
    have key : ∀ d, usN I f (NH + d) = usN I f NH := by
      intro d
      induction d with
      | zero => rfl
      | succ d ih =>
        show usN I f (NH + d) + (if loN I f (NH + d) 0 = 0 then 0 else 1) = _
        have : loN I f (NH + d) 0 = 0 := by
          unfold loN
          rw [sn_congr (g' := fun _ => 0) (fun i hi => ?_), sn_0]
          by_cases q : rn f i = true ∧ ho f i = NH + d
          · have := ho_lt hw.2.2.1 hi q.1
            omega
          · rw [if_neg q]
        rw [if_pos this, ih]; omega
    have := key (8 - NH)
    rw [show NH + (8 - NH) = 8 by omega] at this
    exact this
  refine ⟨?_, ?_⟩
  · rw [← e8]
    refine sn_sm (fun h hh => ?_)
    have l := loN_is hg hw.2.2.1 h (show 0 < 2 by omega)
    rw [hr.2.2.2.2.2.1 h hh 0 (by omega), l.1]
    by_cases q : loN I f h 0 = 0
    · rw [if_pos q, q, if_pos (by decide)]; rfl
    · rw [if_neg q, if_neg (by rw [li_0, li_le (by omega) (by omega)]; omega)]; rfl
  · have := sn_le (g := fun h => if loN I f h 0 = 0 then 0 else 1) (B := 1) (n := NH) (fun k _ => by split <;> omega)
    unfold usN
    omega
theorem std_729 (h6 : NY ≤ 6) (hw : wfs NH NY NE f) : std (Lm (tf f) (nrf f)) 6 ≤ 729 := by
  rw [← mxp_is]
  refine std_mxp 6 12 ?_
  have ok := okF h6 hw
  have e := ct_sum (ta := tf f) (s := fl (nrf f)) (ty6 ok (fun _ h => h)) (fun _ => 1)
  have e2 : sn (fun t => ct (tf f) t (fl (nrf f)) * 1) 6 = sn (Lm (tf f) (nrf f)) 6 := sn_congr (fun t _ => by rw [Nat.mul_one]; rfl)
  rw [e2] at e
  rw [e]
  have := smt_B (g := fun _ => 1) (B := 1) (t := fl (nrf f)) (fun _ _ _ => Nat.le_refl _)
  omega
/-- the hosts, one after the other -/
theorem c_heldLoop (hc : mc I0 NH NY NE NR) (hg : mrg I0 NH NY NE NR) (hl : clR I0 NH NY NE NR) (hz : L0 (Lm ta n) NY) (h12 : ∀ t, t < 6 → Lm ta n t ≤ 12) (h729 : std (Lm ta n) 6 ≤ 729) (ok : okT ta n) {k : Nat} {B : Nat → Nat} (hk : k < NH) (hB : CI ta (Xf I0) (Hf I0) n NH k B) (r55 : Nat → Nat → Int32 → Int32 → ab_Mm → Option (Int32 × ab_Mm)) :
    ∀ (q fu v : Nat) (I : Nat → Nat → Int32) (F : Nat → Nat), v + q + 1 = std (Lm ta n) 6 → q + 1 < fu → pkA I0 I (Lm ta n) B F → CM ta (Xf I0) (Hf I0) n NH k B v F → odD I 186 (dg (Lm ta n) v) v →
      ∃ I' F', bb_X6_fewestFor_106 r55 fu 180 18 (nI (cds ta n (fl n))) (nI k) 1 (nI v) (S0, I, J, x) = r55 180 18 (nI (cds ta n (fl n))) (nI k + 1) (S0, I', J, x) ∧ pkA I0 I' (Lm ta n) B F' ∧ CM ta (Xf I0) (Hf I0) n NH k B (std (Lm ta n) 6) F' := by
  have one : ∀ (fu v : Nat) (I : Nat → Nat → Int32) (F : Nat → Nat), v < std (Lm ta n) 6 → pkA I0 I (Lm ta n) B F → CM ta (Xf I0) (Hf I0) n NH k B v F → odD I 186 (dg (Lm ta n) v) v →
      ∃ I' F', bb_X6_fewestFor_106 r55 (fu + 1) 180 18 (nI (cds ta n (fl n))) (nI k) 1 (nI v) (S0, I, J, x) = bb_X6_fewestFor_106 r55 fu 180 18 (nI (cds ta n (fl n))) (nI k) (if v + 1 < std (Lm ta n) 6 then 1 else 0) (nI (v + 1)) (S0, I', J, x) ∧ pkA I0 I' (Lm ta n) B F' ∧ CM ta (Xf I0) (Hf I0) n NH k B (v + 1) F' ∧ (v + 1 < std (Lm ta n) 6 → odD I' 186 (dg (Lm ta n) (v + 1)) (v + 1)) := by
    intro fu v I F hv hA hM hD
    obtain ⟨I1, F1, y1, y2, y3, y4⟩ := @c_addHost I I0 J x NH NY NE NR n ta hc hg hl hz h12 h729 ok k v B F hk hv hB hA hM hD
    have hD2 : odD I1 186 (dg (Lm ta n) v) (wst (std (Lm ta n)) (dg (Lm ta n) v)) := by rw [wst_std hv]; exact y4
    obtain ⟨I2, z1, z2, z3⟩ := @c_step I1 J x (Lm ta n) (std (Lm ta n)) 186 okO sh_186 sh_187 (by omega) (fun t ht => (y2.1.2.2 t ht).2) (fun t ht => (y2.1.2.2 t ht).1) h12 v hD2
    have hq1 : qu (Lm ta n) v 6 = 0 := qu_of hv
    have eq : (qu (Lm ta n) (v + 1) 6 = qu (Lm ta n) v 6) = (v + 1 < std (Lm ta n) 6) := propext ⟨fun h => qu_lt (h.trans hq1), fun h => (qu_of h).trans hq1.symm⟩
    simp only [eq] at z1 z3
    refine ⟨I2, F1, ?_, pkA_sam y2 (fun r hr => z2 r (by omega) (by omega)), y3, fun h => ?_⟩
    · rw [bb_X6_fewestFor_106, if_neg (by rw [li_n 729, li_le (by omega) (by omega)]; omega), if_neg n10, p_rc, ob_s, y1, ob_s, p_f4, ob_s, p_f3, ob_s, o_rc, ob_s, z1, ob_s, nI_1]
    · have := z3 h
      rw [wst_std h] at this
      exact this
  intro q
  induction q with
  | zero =>
    intro fu v I F e1 e2 hA hM hD
    obtain ⟨fu, rfl⟩ : ∃ z, fu = z + 2 := ⟨fu - 2, by omega⟩
    obtain ⟨I1, F1, y1, y2, y3, y4⟩ := one (fu + 1) v I F (by omega) hA hM hD
    rw [if_neg (by omega)] at y1
    refine ⟨I1, F1, ?_, y2, ?_⟩
    · rw [y1, bb_X6_fewestFor_106, if_pos rfl]
      split <;> rfl
    · rw [show v + 1 = std (Lm ta n) 6 by omega] at y3
      exact y3
  | succ q ih =>
    intro fu v I F e1 e2 hA hM hD
    obtain ⟨fu, rfl⟩ : ∃ z, fu = z + 1 := ⟨fu - 1, by omega⟩
    obtain ⟨I1, F1, y1, y2, y3, y4⟩ := one fu v I F (by omega) hA hM hD
    rw [if_pos (by omega)] at y1
    obtain ⟨I2, F2, w1, w2, w3⟩ := ih fu (v + 1) I1 F1 (by omega) (by omega) y2 y3 (y4 (by omega))
    exact ⟨I2, F2, y1.trans w1, w2, w3⟩
theorem c_hostLoop (hc : mc I0 NH NY NE NR) (hg : mrg I0 NH NY NE NR) (hl : clR I0 NH NY NE NR) (hz : L0 (Lm ta n) NY) (h12 : ∀ t, t < 6 → Lm ta n t ≤ 12) (h729 : std (Lm ta n) 6 ≤ 729) (ok : okT ta n) :
    ∀ (q fu k : Nat) (I : Nat → Nat → Int32) (F : Nat → Nat), k + q = NH → q < fu → pkS I0 I (Lm ta n) → pkW I0 I (Lm ta n) (std (Lm ta n) 6) → pkF I 181 F → CI ta (Xf I0) (Hf I0) n NH k F →
      ∃ I' F', bb_X6_fewestFor_55 fu 180 18 (nI (cds ta n (fl n))) (nI k) (S0, I, J, x) = some (nI (F' (cds ta n (fl n))), (S0, I', J, x)) ∧ (∀ r, r < 181 ∨ 192 ≤ r → I' r = I0 r) ∧ tI I' 183 729 2 ∧ CI ta (Xf I0) (Hf I0) n NH NH F' := by
  have h8 := hc.2.1
  have hall := all_729 (ta := ta) h729
  intro q
  induction q with
  | zero =>
    intro fu k I F e1 e2 hS hW hF hC
    obtain ⟨fu, rfl⟩ : ∃ z, fu = z + 1 := ⟨fu - 1, by omega⟩
    have ek : k = NH := by omega
    subst ek
    have e0 : I 19 3 = nI k := by rw [hS.1 19 (by omega)]; exact hl.2.1.1
    refine ⟨I, F, ?_, hS.1, hS.2.1, hC⟩
    rw [bb_X6_fewestFor_55, d_R0, ob_s, fI_X10_3 cl17.2.1.1, ob_s, e0, if_pos (le_self _), p_f0, ob_s, op_ld sh_180 rfl hall (by omega), ob_s, hF _ hall]
  | succ q ih =>
    intro fu k I F e1 e2 hS hW hF hC
    obtain ⟨fu, rfl⟩ : ∃ z, fu = z + 1 := ⟨fu - 1, by omega⟩
    have e0 : I 19 3 = nI NH := by rw [hS.1 19 (by omega)]; exact hl.2.1.1
    have cpo : ∀ r, r ≠ 182 → ab_cp I 181 0 182 0 729 r = I r := fun r hr => by
      funext k
      unfold ab_cp
      rw [if_neg (fun w => hr w.1)]
    have cpi : ∀ c, c < 729 → ab_cp I 181 0 182 0 729 182 c = I 181 c := fun c hc => by
      unfold ab_cp
      rw [if_pos ⟨rfl, by omega, by omega⟩]
      exact congrArg (I 181) (by omega)
    obtain ⟨I1, r1, r2, r3⟩ := @c_restart (ab_cp I 181 0 182 0 729) J x 186 okO sh_186 (Lm ta n) (std (Lm ta n))
    have h0 := std_pos (Lm ta n) 6
    rw [wst_std (by omega)] at r3
    have hA : pkA I0 I1 (Lm ta n) F F := by
      have o : ∀ r, r ≠ 182 → r ≠ 186 → r ≠ 187 → I1 r = I r := fun r a b c => (r2 r b c).trans (cpo r a)
      refine ⟨⟨fun r hr => (o r (by omega) (by omega) (by omega)).trans (hS.1 r hr), ?_, fun t ht => ?_⟩, fun c hc w hw => ?_, fun c hc => ?_, fun c hc => ?_⟩
      · have q := hS.2.1
        unfold tI at q ⊢
        rw [o 183 (by omega) (by omega) (by omega)]; exact q
      · rw [o 185 (by omega) (by omega) (by omega), o 188 (by omega) (by omega) (by omega)]; exact hS.2.2 t ht
      · rw [o 184 (by omega) (by omega) (by omega)]; exact hW c hc w hw
      · rw [o 181 (by omega) (by omega) (by omega)]; exact hF c hc
      · rw [r2 182 (by omega) (by omega), cpi c hc]; exact hF c hc
    obtain ⟨I2, F2, w1, w2, w3⟩ := @c_heldLoop I0 J x NH NY NE NR n ta hc hg hl hz h12 h729 ok k F (by omega) hC (bb_X6_fewestFor_55 fu) (std (Lm ta n) 6 - 1) ab_fu 0 I1 F (by omega) (ab_fu_big (by omega)) hA (CM_start hC) r3
    obtain ⟨I', F', v1, v2, v3, v4⟩ := ih fu (k + 1) I2 F2 (by omega) (by omega) w2.1 w2.2.1 w2.2.2.1 (CI_end h729 hC w3)
    refine ⟨I', F', ?_, v2, v3, v4⟩
    rw [bb_X6_fewestFor_55, d_R0, ob_s, fI_X10_3 cl17.2.1.1, ob_s, e0, if_neg (by rw [li_le (by omega) (by omega)]; omega), p_f0, ob_s, p_f1, ob_s, ob_s, op_len sh_180, ob_s, ob_s, op_len sh_181, ob_s, if_neg (by decide), op_cpI sh_180 sh_181 li_0 li_0 rfl (by omega) (by omega) (by omega) (by omega), ob_s, p_f4, ob_s, o_rc, ob_s, r1, ob_s]
    refine w1.trans ?_
    rw [nI_1]
    exact v1
theorem c_fewest (hc : mc I NH NY NE NR) (hg : mrg I NH NY NE NR) (hl : clR I NH NY NE NR) (hw : wff I NH NY NE f) (hr : sr I NY 32 f) (hT : tI I 183 729 2) :
    ∃ I' v, dd_X6_fewestFor 180 18 32 (S0, I, J, x) = some (nI v, (S0, I', J, x)) ∧ (∀ r, r < 181 ∨ 192 ≤ r → I' r = I r) ∧ tI I' 183 729 2 ∧ (nrf f = 0 → v = 0) ∧ (nrf f ≠ 0 → ∃ F, CI (tf f) (Xf I) (Hf I) (nrf f) NH NH F ∧ v = F (cds (tf f) (nrf f) (fl (nrf f)))) := by
  have h6 := hc.2.2.1
  have ok := okF h6 hw.2.2.1
  have h729 := std_729 h6 hw.2.2.1
  have hall := all_729 h729
  have hLe : Lm (tf f) (nrf f) = Ln f := Lm_f
  have eall : cdv (Ln f) (Ln f) 6 = cds (tf f) (nrf f) (fl (nrf f)) := by
    rw [← hLe]; rfl
  obtain ⟨I1, a1, a2, a3⟩ := @c_count I J x NH NY NE f h6 hw hr
  rw [eall] at a1
  by_cases hz0 : cds (tf f) (nrf f) (fl (nrf f)) = 0
  · have hn0 : nrf f = 0 := by
      have := cds_z ok (fun _ h => h) hz0
      have h2 := fl_bit (nrf f) 0
      rw [this] at h2
      simp at h2
      exact h2
    refine ⟨I1, 0, ?_, fun r hr => a2 r (by omega) (by omega), ?_, fun _ => rfl, fun h => absurd hn0 h⟩
    · unfold dd_X6_fewestFor
      rw [p_rc, ob_s, a1, ob_s, hz0, if_pos (show nI 0 ≤ 0 by decide)]
      rfl
    · unfold tI at hT ⊢
      rw [a2 183 (by omega) (by omega)]; exact hT
  · have hS : pkS I I1 (Lm (tf f) (nrf f)) := by
      rw [hLe]
      refine ⟨fun r hr => a2 r (by omega) (by omega), ?_, a3⟩
      unfold tI at hT ⊢
      rw [a2 183 (by omega) (by omega)]; exact hT
    have hz : L0 (Lm (tf f) (nrf f)) NY := by rw [hLe]; exact Ln_0 hw
    have h12 : ∀ t, t < 6 → Lm (tf f) (nrf f) t ≤ 12 := fun t _ => by rw [hLe]; exact Ln_le t
    obtain ⟨I2, b1, b2, b3⟩ := @c_needs I1 I J x NH NY NE NR (Lm (tf f) (nrf f)) hg hl h6 hz h12 h729 hS
    have us := use_is hc hg hw hr
    -- the first numbers
    have off : ∀ (Ia : Nat → Nat → Int32), (∀ r, r ≠ 181 → Ia r = I2 r) → ∀ r, r < 181 ∨ 192 ≤ r → Ia r = I r := fun Ia h r hr => (h r (by omega)).trans (b2.1 r hr)
    have g1 : ∀ r, r ≠ 181 → ab_u (ro I2 181 (fun b => if b < 729 then (99 : Int32) else I2 181 b)) 181 0 0 r = I2 r := fun r hr => by rw [u_r hr, ro_off _ _ hr]
    have hr1 : sr (ab_u (ro I2 181 (fun b => if b < 729 then (99 : Int32) else I2 181 b)) 181 0 0) NY 32 f := sr_sam hr (fun r a e => off _ g1 r (by omega)) (off _ g1 204 (by omega))
    have eu : useS (ab_u (ro I2 181 (fun b => if b < 729 then (99 : Int32) else I2 181 b)) 181 0 0) 32 = useS I 32 := by
      unfold useS gl
      rw [off _ g1 (32 + 7 + 1) (by omega)]
    have g2 : ∀ r, r ≠ 181 → ab_u (ab_u (ro I2 181 (fun b => if b < 729 then (99 : Int32) else I2 181 b)) 181 0 0) 181 (cds (tf f) (nrf f) (fl (nrf f))) (nI (usN I f NH)) r = I2 r := fun r hr => by rw [u_r hr]; exact g1 r hr
    have g3 : pkF (ab_u (ab_u (ro I2 181 (fun b => if b < 729 then (99 : Int32) else I2 181 b)) 181 0 0) 181 (cds (tf f) (nrf f) (fl (nrf f))) (nI (usN I f NH))) 181 (fun c => if c = cds (tf f) (nrf f) (fl (nrf f)) then usN I f NH else if c = 0 then 0 else 99) := fun c hc => by
      show _ = nI (if c = cds (tf f) (nrf f) (fl (nrf f)) then usN I f NH else if c = 0 then 0 else 99)
      by_cases e : c = cds (tf f) (nrf f) (fl (nrf f))
      · rw [if_pos e, e, u_e]
      · rw [if_neg e, u_k e]
        by_cases e2 : c = 0
        · rw [if_pos e2, e2, u_e]; rfl
        · rw [if_neg e2, u_k e2, ro_at, if_pos hc]; rfl
    have hC : CI (tf f) (Xf I) (Hf I) (nrf f) NH 0 (fun c => if c = cds (tf f) (nrf f) (fl (nrf f)) then usN I f NH else if c = 0 then 0 else 99) := CI_start ok (U := usN I f NH) (by omega) (RM_full hg hw) (by omega) (by
        show (if 0 = cds (tf f) (nrf f) (fl (nrf f)) then usN I f NH else if 0 = 0 then 0 else 99) = 0
        rw [if_neg (by omega), if_pos rfl]) (if_pos rfl) (fun c hc h0 h1 => by
        show (if c = cds (tf f) (nrf f) (fl (nrf f)) then usN I f NH else if c = 0 then 0 else 99) = 99
        rw [if_neg h1, if_neg h0]) h729
    have st1 : ab_st (S0, ro I2 181 (fun b => if b < 729 then (99 : Int32) else I2 181 b), J, x) 1 181 0 0 = some (S0, ab_u (ro I2 181 (fun b => if b < 729 then (99 : Int32) else I2 181 b)) 181 0 0, J, x) := op_st _ sh_180 li_0 (by omega) (by omega)
    generalize ab_u (ro I2 181 (fun b => if b < 729 then (99 : Int32) else I2 181 b)) 181 0 0 = I3 at g1 hr1 eu g2 g3 st1
    have st2 : ab_st (S0, I3, J, x) 1 181 (nI (cds (tf f) (nrf f) (fl (nrf f)))) (nI (usN I f NH)) = some (S0, ab_u I3 181 (cds (tf f) (nrf f) (fl (nrf f))) (nI (usN I f NH)), J, x) := op_st _ sh_180 rfl hall (by omega)
    generalize ab_u I3 181 (cds (tf f) (nrf f) (fl (nrf f))) (nI (usN I f NH)) = I4 at g2 g3 st2
    have hS4 : pkS I I4 (Lm (tf f) (nrf f)) := by
      refine ⟨off I4 g2, ?_, fun t ht => ?_⟩
      · have q := b2.2.1
        unfold tI at q ⊢
        rw [g2 183 (by omega)]; exact q
      · rw [g2 185 (by omega), g2 188 (by omega)]; exact b2.2.2 t ht
    have hW4 : pkW I I4 (Lm (tf f) (nrf f)) (std (Lm (tf f) (nrf f)) 6) := fun c hc w hw2 => by rw [g2 184 (by omega)]; exact b3 c hc w hw2
    obtain ⟨I5, F, d1, d2, d3, d4⟩ := @c_hostLoop I J x NH NY NE NR (nrf f) (tf f) hc hg hl hz h12 h729 ok NH ab_fu 0 I4 _ (by omega) (ab_fu_big (by have := hc.2.1; omega)) hS4 hW4 g3 hC
    refine ⟨I5, F (cds (tf f) (nrf f) (fl (nrf f))), ?_, d2, d3, fun h0 => ?_, fun _ => ⟨F, d4, rfl⟩⟩
    · unfold dd_X6_fewestFor
      rw [p_rc, ob_s, a1, ob_s, if_neg (by rw [li_0, li_le (by omega) (by omega)]; omega), p_f0, ob_s, op_len sh_180, ob_s, if_pos (by rw [li_lt (by omega) (by omega)]; omega), p_rc, ob_s, b1, ob_s, p_f0, ob_s, fi_fill sh_180 (by omega), ob_s, p_f0, ob_s, st1, ob_s, p_f0, ob_s, e_rc, ob_s, si_use si31 hr1.1, ob_s, eu, us.1, st2, ob_s]
      exact d1
    · refine absurd ?_ hz0
      rw [h0]
      show cds (tf f) 0 0 = 0
      exact cds_0
end PF
