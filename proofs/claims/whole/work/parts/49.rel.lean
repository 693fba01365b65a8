/-! ===== how a situation of the class and the model's row belong together ===== -/
/-- the cloud of the class and the model's -/
def clR (I : Nat → Nat → Int32) (NH NY NE NR : Nat) : Prop :=
  clI I 18 ∧ (I 19 3 = nI NH ∧ I 21 3 = nI NY ∧ I 23 3 = nI NE ∧ I 25 3 = nI NR) ∧
  (∀ h, h < NH → ∀ w, w < 2 → gh I 18 h w = mh I h w) ∧ (∀ h, NH ≤ h → h < 8 → gh I 18 h 0 = 0) ∧
  (∀ y, y < NY → ∀ w, w < 3 → gt I 18 y w = mt I y w) ∧ (∀ e, e < NE → ge I 18 e = I 205 e) ∧
  (∀ r, r < NR → ∀ w, w < 6 → gr I 18 r w = mr I r w) ∧
  (gg I 18 0 = I 202 4 ∧ gg I 18 1 = I 202 5 ∧ gg I 18 2 = I 202 6)
/-- a situation's cells -/
def sr (I : Nat → Nat → Int32) (NY s : Nat) (f : Nat → Int64) : Prop :=
  siI I s ∧ I s 0 = clk f ∧ I s 1 = sets (rn f) ∧
  (∀ i, i < 12 → rn f i = true → gi I s i 0 = (vi f i 0).toInt32 ∧ gi I s i 1 = (vi f i 1).toInt32 ∧ gi I s i 2 = (vi f i 3).toInt32 ∧ gi I s i 3 = (vi f i 2).toInt32 ∧ gi I s i 4 = (vi f i 4).toInt32 ∧ gi I s i 5 = (vi f i 5).toInt32) ∧
  (∀ y, y < NY → gp I s y = (f (2 + y)).toInt32) ∧
  (∀ h, h < 8 → ∀ w, w < 2 → gl I s h w = lod I f h w) ∧
  I (s + 3) 3 = nI (nq f) ∧ (∀ r, r < nq f → ∀ w, w < 3 → gq I s (rk (bq f) (nq f) r) w = (vq f r w).toInt32)
/-- what the row's numbers may be -/
def wff (I : Nat → Nat → Int32) (NH NY NE : Nat) (f : Nat → Int64) : Prop :=
  isn (f 0) 20000 ∧ isn (f 1) 11 ∧ wfs NH NY NE f ∧ (∀ i, i < 12 → rn f i = true → mbd f i = -1 ∨ isr (mbd f i) 1 9999) ∧
  (∀ y, y < NY → isI (f (2 + y))) ∧
  (∀ r, r < nq f → isn (vq f r 0) NE ∧ isn (vq f r 1) NY ∧ isI (vq f r 2) ∧ isr (bq f r) 1 9999) ∧
  (∀ h, h < NH → ∀ w, w < 2 → ¬ fre I f h w < 0)
theorem isn_I {v : Int64} {n : Nat} (h : isn v n) : isI v := by
  unfold isI
  rw [isn_32 h]
  exact h.1
/-- sums of natural numbers -/
def sn (g : Nat → Nat) : Nat → Nat
  | 0 => 0
  | n + 1 => sn g n + g n
theorem sn_sm {f : Nat → Int32} {g : Nat → Nat} : ∀ {n : Nat}, (∀ k, k < n → f k = nI (g k)) → sm f n = nI (sn g n)
  | 0, _ => rfl
  | n + 1, h => by rw [sm, sn, sn_sm (fun k hk => h k (by omega)), h n (by omega), nI_add]
theorem sn_le {g : Nat → Nat} {B : Nat} : ∀ {n : Nat}, (∀ k, k < n → g k ≤ B) → sn g n ≤ n * B
  | 0, _ => by simp [sn]
  | n + 1, h => by
    have h1 := sn_le (n := n) (fun k hk => h k (by omega))
    have h2 := h n (by omega)
    rw [sn, Nat.add_mul]
    omega
section RL
variable {I : Nat → Nat → Int32} {J : Nat → Nat → Int64} {x : Nat} {NH NY NE NR s : Nat} {f : Nat → Int64}
/-- a type's numbers -/
def tN (I : Nat → Nat → Int32) (y w : Nat) : Nat := (mt I y w).toNatClampNeg
theorem isr_n {v : Int32} {lo hi : Nat} (h : isr v lo hi) (hb : hi < 2 ^ 31) : v = nI v.toNatClampNeg ∧ lo ≤ v.toNatClampNeg ∧ v.toNatClampNeg ≤ hi := by
  obtain ⟨n, rfl, h1, h2⟩ := h
  rw [nI_clamp (by omega)]
  exact ⟨rfl, h1, h2⟩
theorem tN_is (hg : mrg I NH NY NE NR) {y w : Nat} (hy : y < NY) (hw : w < 2) : mt I y w = nI (tN I y w) ∧ 1 ≤ tN I y w ∧ tN I y w ≤ 256 := by
  have h := hg.2.1 y hy
  match w, hw with
  | 0, _ =>
    have q := isr_n h.1 (by omega)
    exact ⟨q.1, q.2.1, Nat.le_trans q.2.2 (by omega)⟩
  | 1, _ => exact isr_n h.2.1 (by omega)
def hN (I : Nat → Nat → Int32) (h w : Nat) : Nat := (mh I h w).toNatClampNeg
theorem hN_is (hg : mrg I NH NY NE NR) {h w : Nat} (hh : h < NH) (hw : w < 2) : mh I h w = nI (hN I h w) ∧ 1 ≤ hN I h w ∧ hN I h w ≤ 256 := by
  have q0 := hg.1 h hh
  match w, hw with
  | 0, _ =>
    have q := isr_n q0.1 (by omega)
    exact ⟨q.1, q.2.1, Nat.le_trans q.2.2 (by omega)⟩
  | 1, _ => exact isr_n q0.2 (by omega)
theorem ty_lt (hw : wfs NH NY NE f) {i : Nat} (hi : i < 12) (hr : rn f i = true) : ty f i < NY := (hw i hi hr).2.1.2
theorem ho_lt (hw : wfs NH NY NE f) {i : Nat} (hi : i < 12) (hr : rn f i = true) : ho f i < NH := (hw i hi hr).2.2.1.2
theorem en_lt (hw : wfs NH NY NE f) {i : Nat} (hi : i < 12) (hr : rn f i = true) : en f i < NE := (hw i hi hr).1.2
/-- the load, as a natural number -/
def loN (I : Nat → Nat → Int32) (f : Nat → Int64) (h w : Nat) : Nat := sn (fun i => if rn f i = true ∧ ho f i = h then tN I (ty f i) w else 0) 12
theorem loN_is (hg : mrg I NH NY NE NR) (hw : wfs NH NY NE f) (h : Nat) {w : Nat} (h2 : w < 2) : lod I f h w = nI (loN I f h w) ∧ loN I f h w ≤ 3072 := by
  constructor
  · refine sn_sm (fun i hi => ?_)
    by_cases hc : rn f i = true ∧ ho f i = h
    · rw [if_pos hc, if_pos hc]
      exact (tN_is hg (ty_lt hw hi hc.1) h2).1
    · rw [if_neg hc, if_neg hc]; rfl
  · refine sn_le (B := 256) (fun i hi => ?_)
    by_cases hc : rn f i = true ∧ ho f i = h
    · rw [if_pos hc]
      exact (tN_is hg (ty_lt hw hi hc.1) h2).2.2
    · rw [if_neg hc]; omega
theorem fre_int (hg : mrg I NH NY NE NR) (hw : wfs NH NY NE f) {h w : Nat} (hh : h < NH) (h2 : w < 2) : (fre I f h w).toInt = (hN I h w : Int) - loN I f h w := by
  have q1 := loN_is hg hw h h2
  have q2 := hN_is hg hh h2
  unfold fre
  rw [q1.1, q2.1]
  exact pk_sub_toInt (by omega) (by omega)
theorem sr_ru (h : sr I NY s f) {j : Nat} (hj : j < 12) : ru I s j = rn f j := by
  unfold ru
  rw [h.2.2.1, sets_bit _ hj]
  cases rn f j <;> decide
theorem sr_lf (hc : clR I NH NY NE NR) (h : sr I NY s f) {k w : Nat} (hk : k < NH) (h8 : NH ≤ 8) (hw : w < 2) : lf I 18 s k w = fre I f k w := by
  unfold lf fre
  rw [hc.2.2.1 k hk w hw, h.2.2.2.2.2.1 k (by omega) w hw]
theorem sr_fit (hc : clR I NH NY NE NR) (h : sr I NY s f) {y k : Nat} (hy : y < NY) (hk : k < NH) (h8 : NH ≤ 8) : fitB I 18 s y k = mfit I f y k := by
  unfold fitB mfit
  rw [sr_lf hc h hk h8 (by omega), sr_lf hc h hk h8 (by omega), hc.2.2.2.2.1 y hy 0 (by omega), hc.2.2.2.2.1 y hy 1 (by omega)]
theorem nI_ne {j : Nat} (h : j < 2 ^ 31) : nI j ≠ -1 := by
  intro e
  have := congrArg Int32.toInt e
  rw [nI_toInt h] at this
  have h2 : (-1 : Int32).toInt = -1 := rfl
  omega
theorem bestS_s (I : Nat → Nat → Int32) (c s y k : Nat) : bestS I c s y (k + 1) = if fitB I c s y k = true then (if (bestS I c s y k).1 = -1 then (nI k, lf I c s k 0 + lf I c s k 1) else if (bestS I c s y k).2 ≤ lf I c s k 0 + lf I c s k 1 then bestS I c s y k else (nI k, lf I c s k 0 + lf I c s k 1)) else bestS I c s y k := by
  unfold bestS
  rw [itr_last, Nat.zero_add]
theorem mbest_s (I : Nat → Nat → Int32) (f : Nat → Int64) (y k : Nat) : mbest I f y (k + 1) = if mfit I f y k = true then (if (mbest I f y k).2 ≤ fre I f k 0 + fre I f k 1 then mbest I f y k else (nI k, fre I f k 0 + fre I f k 1)) else mbest I f y k := by
  unfold mbest
  rw [itr_last, Nat.zero_add]
theorem sr_best (hc : clR I NH NY NE NR) (hg : mrg I NH NY NE NR) (hw : wfs NH NY NE f) (h : sr I NY s f) {y : Nat} (hy : y < NY) (h8 : NH ≤ 8) : (bestS I 18 s y NH).1 = (mbest I f y NH).1 := by
  have key : ∀ k, k ≤ NH → (bestS I 18 s y k).1 = (mbest I f y k).1 ∧ ((bestS I 18 s y k).1 = -1 → (mbest I f y k).2 = 2147483647) ∧ ((bestS I 18 s y k).1 ≠ -1 → (bestS I 18 s y k).2 = (mbest I f y k).2) := by
    intro k
    induction k with
    | zero => exact fun _ => ⟨rfl, fun _ => rfl, fun q => absurd rfl q⟩
    | succ k ih =>
      intro hk
      have ⟨i1, i2, i3⟩ := ih (by omega)
      rw [bestS_s, mbest_s]
      rw [sr_fit hc h hy (show k < NH by omega) h8, sr_lf hc h (show k < NH by omega) h8 (show 0 < 2 by omega), sr_lf hc h (show k < NH by omega) h8 (show 1 < 2 by omega)]
      generalize bestS I 18 s y k = a at i1 i2 i3 ⊢
      generalize mbest I f y k = b at i1 i2 i3 ⊢
      have hne := nI_ne (show k < 2 ^ 31 by omega)
      cases hf : mfit I f y k with
      | false => simpa using ⟨i1, i2, i3⟩
      | true =>
        simp only [if_true]
        by_cases h1 : a.1 = -1
        · have e0 := fre_int hg hw (show k < NH by omega) (show 0 < 2 by omega)
          have e1 := fre_int hg hw (show k < NH by omega) (show 1 < 2 by omega)
          have b0 := hN_is hg (show k < NH by omega) (show 0 < 2 by omega)
          have b1 := hN_is hg (show k < NH by omega) (show 1 < 2 by omega)
          have l0 := loN_is hg hw k (show 0 < 2 by omega)
          have l1 := loN_is hg hw k (show 1 < 2 by omega)
          have hb : ¬ b.2 ≤ fre I f k 0 + fre I f k 1 := by
            rw [i2 h1, Int32.le_iff_toInt_le, Int32.toInt_add, e0, e1]
            have hm : (2147483647 : Int32).toInt = 2147483647 := rfl
            rw [hm, Int.bmod_eq_of_le (by omega) (by omega)]
            omega
          rw [if_pos h1, if_neg hb]
          exact ⟨rfl, fun q => absurd q hne, fun _ => rfl⟩
        · rw [if_neg h1, i3 h1]
          by_cases h2 : b.2 ≤ fre I f k 0 + fre I f k 1
          · rw [if_pos h2, if_pos h2]
            exact ⟨i1, i2, i3⟩
          · rw [if_neg h2, if_neg h2]
            exact ⟨rfl, fun q => absurd q hne, fun _ => rfl⟩
  exact (key NH (Nat.le_refl _)).1
theorem sr_on (hw : wfs NH NY NE f) (h : sr I NY s f) (h8 : NH ≤ 8) {k : Nat} (hk : k < 8) : onS I s (nI k) = sets (fun i => rn f i && decide (ho f i = k)) := by
  unfold onS sets
  refine itr_congr 12 0 0 (fun i b _ hi => ?_)
  rw [sr_ru h (by omega)]
  cases hr : rn f i with
  | false => simp [hr]
  | true =>
    have h2 := (hw i (by omega) hr).2.2.1
    rw [(h.2.2.2.1 i (by omega) hr).2.2.2.1, isn_32 h2]
    have e : (nI (nv (vi f i 2)) = nI k) = (ho f i = k) := by
      rw [li_eq (by have := h2.2; omega) (by omega)]; rfl
    by_cases q : ho f i = k
    · rw [if_pos ⟨rfl, e ▸ q⟩]; simp [hr, q]
    · rw [if_neg (fun w => q (e ▸ w.2))]; simp [hr, q]
theorem sr_reg (hw : wfs NH NY NE f) (h : sr I NY s f) (h6 : NY ≤ 6) (he6 : NE ≤ 6) {e y : Nat} (he : e < 6) (hy : y < 6) : regS I s (nI e) (nI y) = mreg f e y := by
  unfold regS mreg
  refine sm_congr (fun i hi => ?_)
  rw [sr_ru h hi]
  cases hr : rn f i with
  | false => simp
  | true =>
    have q := h.2.2.2.1 i hi hr
    have w := hw i hi hr
    have e1 : (nI (nv (vi f i 0)) = nI e) = (en f i = e) := by
      rw [li_eq (by have := w.1.2; omega) (by omega)]; rfl
    have e2 : (nI (nv (vi f i 1)) = nI y) = (ty f i = y) := by
      rw [li_eq (by have := w.2.1.2; omega) (by omega)]; rfl
    rw [q.1, q.2.1, q.2.2.1, isn_32 w.1, isn_32 w.2.1]
    simp only [e1, e2]
    rfl
theorem sr_many (hw : wfs NH NY NE f) (h : sr I NY s f) (h6 : NY ≤ 6) {y : Nat} (hy : y < 6) : manyS I s (nI y) = nI (cn (fun i => rn f i && decide (ty f i = y)) 12) := by
  unfold manyS
  rw [← cn_sm]
  refine sm_congr (fun i hi => ?_)
  rw [sr_ru h hi]
  cases hr : rn f i with
  | false => simp
  | true =>
    have q := h.2.2.2.1 i hi hr
    have w := hw i hi hr
    have e : (nI (nv (vi f i 1)) = nI y) = (ty f i = y) := by
      rw [li_eq (by have := w.2.1.2; omega) (by omega)]; rfl
    rw [q.2.1, isn_32 w.2.1]
    simp [e]
theorem cl_mact (hc : clR I NH NY NE NR) {r : Nat} (hr : r < NR) : actB I 18 r (clk f) = mact I f r := by
  unfold actB mact
  rw [hc.2.2.2.2.2.2.1 r hr 3 (by omega), hc.2.2.2.2.2.2.1 r hr 4 (by omega)]
theorem cl_mpay (hc : clR I NH NY NE NR) (hg : mrg I NH NY NE NR) {r : Nat} (hr : r < NR) : payS I 18 r (ry I r) = mpay I r := by
  unfold payS mpay
  have q := (hg.2.2.2.1 r hr).2.1
  rw [hc.2.2.2.2.2.2.1 r hr 2 (by omega), hc.2.2.2.2.2.2.1 r hr 5 (by omega), hc.2.2.2.2.1 _ q.2 2 (by omega)]
theorem cl_mrsv (hc : clR I NH NY NE NR) (e y : Nat) : rsvS I 18 NR (nI e) (nI y) (clk f) = mrsv I f NR e y := by
  unfold rsvS mrsv
  refine sm_congr (fun r hr => ?_)
  rw [hc.2.2.2.2.2.2.1 r hr 0 (by omega), hc.2.2.2.2.2.2.1 r hr 1 (by omega), hc.2.2.2.2.2.2.1 r hr 2 (by omega), cl_mact hc hr]
/-- what was spent -/
def spR (J : Nat → Nat → Int64) (s : Nat) (f : Nat → Int64) : Prop := ∀ e, e < 6 → J (s + 9) e = f (8 + e)
theorem sr_ov (hc : clR I NH NY NE NR) (hp : spR J s f) {e : Nat} (he : e < NE) (h6 : NE ≤ 6) : ovB I J 18 s e = mov I f e := by
  unfold ovB mov
  rw [hc.2.2.2.2.2.1 e he, hp e (by omega)]
end RL
