/-! ===== the fewest hosts: what is counted ===== -/
section PK
variable {ta : Nat → Nat} {X H : Nat → Nat → Nat} {n NH : Nat}
def fitS (ta : Nat → Nat) (X H : Nat → Nat → Nat) (k q : Nat) : Prop := smt (fun j => X (ta j) 0) q ≤ H k 0 ∧ smt (fun j => X (ta j) 1) q ≤ H k 1
/-- a set lies on m of the first k hosts -/
def RM (ft : Nat → Nat → Prop) : Nat → Nat → Nat → Prop
  | 0, s, m => s = 0 ∧ m = 0
  | k + 1, s, m => RM ft k s m ∨ ∃ rest part m', part ≠ 0 ∧ rest &&& part = 0 ∧ s = rest ||| part ∧ ft k part ∧ m = m' + 1 ∧ RM ft k rest m'
theorem RM_mono {ft : Nat → Nat → Prop} {s m : Nat} {k : Nat} (h : RM ft k s m) : ∀ {k' : Nat}, k ≤ k' → RM ft k' s m := by
  intro k' hk
  induction k' with
  | zero => have : k = 0 := by omega
            subst this; exact h
  | succ k' ih =>
    by_cases e : k = k' + 1
    · subst e; exact h
    · exact Or.inl (ih (by omega))
abbrev fl (n : Nat) : Nat := 2 ^ n - 1
theorem fl_bit (n j : Nat) : (fl n).testBit j = decide (j < n) := Nat.testBit_two_pow_sub_one n j
theorem fl_lt {n s : Nat} (h : sbs s (fl n)) : s < 2 ^ n := by
  have q : s ≤ 2 ^ n - 1 := sbs_le h
  have := Nat.two_pow_pos n
  omega
theorem lt_fl {n s : Nat} (h : s < 2 ^ n) : sbs s (fl n) := fun i hi => by
  rw [fl_bit]
  have : i < n := Classical.byContradiction fun c => by
    have h2 : 2 ^ n ≤ 2 ^ i := Nat.pow_le_pow_right (by omega) (by omega)
    rw [Nat.testBit_lt_two_pow (Nat.lt_of_lt_of_le h h2)] at hi
    cases hi
  simp [this]
theorem fl_4096 {n : Nat} (h : n ≤ 12) : 2 ^ n ≤ 4096 := Nat.pow_le_pow_right (n := 2) (by omega) h
/-- the positions have types -/
def okT (ta : Nat → Nat) (n : Nat) : Prop := n ≤ 12 ∧ ∀ j, j < n → ta j < 6
theorem ty6 (ok : okT ta n) {s : Nat} (hs : sbs s (fl n)) : ∀ j, j < 12 → s.testBit j = true → ta j < 6 := fun j _ hb => by
  have := hs j hb
  rw [fl_bit] at this
  exact ok.2 j (by simpa using this)
def Lm (ta : Nat → Nat) (n t : Nat) : Nat := ct ta t (fl n)
/-- a set's row of numbers, as a code -/
def cds (ta : Nat → Nat) (n s : Nat) : Nat := cdv (Lm ta n) (fun t => ct ta t s) 6
theorem ct_Lm {s t : Nat} (hs : sbs s (fl n)) : ct ta t s ≤ Lm ta n t := ct_le hs
theorem cds_lt {s : Nat} (hs : sbs s (fl n)) : cds ta n s < std (Lm ta n) 6 := cdv_lt (fun t _ => ct_Lm hs)
theorem cds_un {a b : Nat} (h : a &&& b = 0) : cds ta n (a ||| b) = cds ta n a + cds ta n b := by
  unfold cds
  rw [← cdv_add]
  exact cdv_congr (fun t _ => ct_un h)
theorem dg_cds {s : Nat} (hs : sbs s (fl n)) : ∀ t, t < 6 → dg (Lm ta n) (cds ta n s) t = ct ta t s := (dg_cdv (fun t _ => ct_Lm hs)).2
theorem ct_bit {t s j : Nat} (hj : j < 12) (hb : s.testBit j = true) (ht : ta j = t) : 1 ≤ ct ta t s := by
  unfold ct smt
  have := sn_pos (g := fun i => if s.testBit i then (if ta i = t then 1 else 0) else 0) hj
  simp only [hb, ht, if_true] at this
  exact this
theorem bit_ex {s : Nat} (h : s ≠ 0) : ∃ j, s.testBit j = true := Classical.byContradiction fun c => h (Nat.eq_of_testBit_eq (fun j => by
  rw [Nat.zero_testBit]
  cases hb : s.testBit j with
  | false => rfl
  | true => exact absurd ⟨j, hb⟩ c))
theorem cds_0 : cds ta n 0 = 0 := by
  unfold cds cdv
  have : ∀ t, ct ta t 0 = 0 := fun t => smt_0 _
  simp only [this, Nat.zero_mul]
  exact sn_0 6
theorem cds_z (ok : okT ta n) {s : Nat} (hs : sbs s (fl n)) (h : cds ta n s = 0) : s = 0 := Classical.byContradiction fun c => by
  obtain ⟨j, hj⟩ := bit_ex c
  have hjn := hs j hj
  rw [fl_bit] at hjn
  have hjn : j < n := by simpa using hjn
  have h1 := ct_bit (ta := ta) (t := ta j) (show j < 12 by have := ok.1; omega) hj rfl
  have h2 := dg_cds (ta := ta) hs (ta j) (ok.2 j hjn)
  have h3 := dg_cds (ta := ta) (s := 0) (n := n) (fun i hi => by simp at hi) (ta j) (ok.2 j hjn)
  rw [h] at h2
  rw [cds_0] at h3
  have h4 : ct ta (ta j) 0 = 0 := smt_0 _
  omega
theorem cds_full (ok : okT ta n) {s : Nat} (hs : sbs s (fl n)) (h : cds ta n s = cds ta n (fl n)) : s = fl n := by
  have he : ∀ t, t < 6 → ct ta t s = ct ta t (fl n) := cdv_un (fun t _ => ct_Lm hs) (fun t _ => Nat.le_refl _) h
  refine Nat.eq_of_testBit_eq (fun j => ?_)
  cases hb : (fl n).testBit j with
  | false =>
    cases h2 : s.testBit j with
    | false => rfl
    | true => rw [hs j h2] at hb; cases hb
  | true =>
    cases h2 : s.testBit j with
    | true => rfl
    | false =>
      have hjn : j < n := by
        rw [fl_bit] at hb
        simpa using hb
      have q := he (ta j) (ok.2 j hjn)
      have := smt_lt (g := fun i => if ta i = ta j then 1 else 0) hs (show j < 12 by have := ok.1; omega) h2 hb (by simp)
      unfold ct at q
      omega
/-- the class's numbers after k hosts -/
def SD (ta : Nat → Nat) (X H : Nat → Nat → Nat) (n NH k : Nat) (F : Nat → Nat) : Prop := ∀ s, sbs s (fl n) → F (cds ta n s) = 99 ∨ RM (fitS ta X H) k s (F (cds ta n s)) ∨ (s = fl n ∧ RM (fitS ta X H) NH (fl n) (F (cds ta n s)))
def CI (ta : Nat → Nat) (X H : Nat → Nat → Nat) (n NH k : Nat) (F : Nat → Nat) : Prop := (∀ c, c < 729 → F c ≤ 99) ∧ F (cds ta n (fl n)) < 99 ∧ SD ta X H n NH k F ∧ ∀ s m, sbs s (fl n) → RM (fitS ta X H) k s m → F (cds ta n s) ≤ m ∨ F (cds ta n (fl n)) ≤ m
def CM (ta : Nat → Nat) (X H : Nat → Nat → Nat) (n NH k : Nat) (B : Nat → Nat) (v : Nat) (F : Nat → Nat) : Prop := (∀ c, c < 729 → F c ≤ B c) ∧ SD ta X H n NH (k + 1) F ∧ ∀ rest part m, part ≠ 0 → rest &&& part = 0 → sbs (rest ||| part) (fl n) → fitS ta X H k part → RM (fitS ta X H) k rest m → cds ta n rest < v → F (cds ta n (rest ||| part)) ≤ m + 1 ∨ F (cds ta n (fl n)) ≤ m + 1
def Lv (ta : Nat → Nat) (n v t : Nat) : Nat := Lm ta n t - dg (Lm ta n) v t
def CN (ta : Nat → Nat) (X H : Nat → Nat → Nat) (n NH k : Nat) (B : Nat → Nat) (v i : Nat) (F : Nat → Nat) : Prop := CM ta X H n NH k B v F ∧ ∀ rest part m, part ≠ 0 → rest &&& part = 0 → sbs (rest ||| part) (fl n) → fitS ta X H k part → cds ta n rest = v → B v ≤ m → (∃ j, 1 ≤ j ∧ j ≤ i ∧ ∀ t, t < 6 → ct ta t part = dg (Lv ta n v) j t) → F (cds ta n (rest ||| part)) ≤ m + 1 ∨ F (cds ta n (fl n)) ≤ m + 1
theorem SD_mono {k : Nat} {F : Nat → Nat} (h : SD ta X H n NH k F) : SD ta X H n NH (k + 1) F := fun s hs => by
  rcases h s hs with a | a | a
  · exact Or.inl a
  · exact Or.inr (Or.inl (RM_mono a (by omega)))
  · exact Or.inr (Or.inr a)
theorem CI_start (ok : okT ta n) {U : Nat} {F : Nat → Nat} (hU : U < 99) (h1 : RM (fitS ta X H) NH (fl n) U) (hz : 0 < cds ta n (fl n)) (e0 : F 0 = 0) (e1 : F (cds ta n (fl n)) = U) (e2 : ∀ c, c < 729 → c ≠ 0 → c ≠ cds ta n (fl n) → F c = 99) (h729 : std (Lm ta n) 6 ≤ 729) : CI ta X H n NH 0 F := by
  refine ⟨fun c hc => ?_, by omega, fun s hs => ?_, fun s m hs hr => ?_⟩
  · by_cases a : c = 0
    · rw [a, e0]; omega
    · by_cases b : c = cds ta n (fl n)
      · rw [b, e1]; omega
      · rw [e2 c hc a b]; omega
  · have hlt := cds_lt (ta := ta) hs
    by_cases a : cds ta n s = 0
    · have := cds_z ok hs a
      rw [a, e0]
      exact Or.inr (Or.inl ⟨this, rfl⟩)
    · by_cases b : cds ta n s = cds ta n (fl n)
      · rw [b, e1]
        exact Or.inr (Or.inr ⟨cds_full ok hs b, h1⟩)
      · exact Or.inl (e2 _ (by omega) a b)
  · have : s = 0 := hr.1
    rw [this, cds_0, e0]
    omega
theorem CM_start {k : Nat} {B : Nat → Nat} (h : CI ta X H n NH k B) : CM ta X H n NH k B 0 B := ⟨fun _ _ => Nat.le_refl _, SD_mono h.2.2.1, fun rest part m _ _ _ _ _ h0 => by omega⟩
theorem sbs_l {a b c : Nat} (h : sbs (a ||| b) c) : sbs a c := sbs_trans sbs_or.1 h
theorem sbs_r {a b c : Nat} (h : sbs (a ||| b) c) : sbs b c := sbs_trans sbs_or.2 h
theorem all_729 (h729 : std (Lm ta n) 6 ≤ 729) : cds ta n (fl n) < 729 := Nat.lt_of_lt_of_le (cds_lt (fun _ h => h)) h729
theorem CM_prune (h729 : std (Lm ta n) 6 ≤ 729) {k v : Nat} {B F : Nat → Nat} (hB : CI ta X H n NH k B) (h : CM ta X H n NH k B v F) (hp : F (cds ta n (fl n)) ≤ B v + 1) : CM ta X H n NH k B (v + 1) F := by
  refine ⟨h.1, h.2.1, fun rest part m h1 h2 h3 h4 h5 h6 => ?_⟩
  by_cases e : cds ta n rest = v
  · have ha := h.1 _ (all_729 h729)
    rcases hB.2.2.2 rest m (sbs_l h3) h5 with q | q
    · rw [e] at q
      omega
    · omega
  · exact h.2.2 rest part m h1 h2 h3 h4 h5 (by omega)
theorem CN_start {k v : Nat} {B F : Nat → Nat} (h : CM ta X H n NH k B v F) : CN ta X H n NH k B v 0 F := ⟨h, fun rest part m _ _ _ _ _ _ ⟨j, h1, h2, _⟩ => by omega⟩
def updF (F : Nat → Nat) (c v : Nat) : Nat → Nat := fun k => if k = c then v else F k
/-- weights of a row of numbers -/
def wgt (p : Nat → Nat) (X : Nat → Nat) : Nat := sn (fun t => p t * X t) 6
theorem wgt_ct (ok : okT ta n) {s : Nat} (hs : sbs s (fl n)) (X : Nat → Nat) : wgt (fun t => ct ta t s) X = smt (fun j => X (ta j)) s := ct_sum (ty6 ok hs) X
theorem wgt_congr {p p' X : Nat → Nat} (h : ∀ t, t < 6 → p t = p' t) : wgt p X = wgt p' X := sn_congr (fun t ht => by rw [h t ht])
theorem CN_step (ok : okT ta n) (h729 : std (Lm ta n) 6 ≤ 729) {k v i : Nat} {B F F' : Nat → Nat} (hk : k < NH) (hv : v < std (Lm ta n) 6) (hB : CI ta X H n NH k B) (h : CN ta X H n NH k B v i F) (hnp : ¬ F (cds ta n (fl n)) ≤ B v + 1 ∨ B v < 98) (p : Nat → Nat) (hp : ∀ t, t < 6 → p t = dg (Lv ta n v) (i + 1) t) (hpz : ∃ t, t < 6 ∧ p t ≠ 0)
    (hF : (wgt p (fun t => X t 0) ≤ H k 0 ∧ wgt p (fun t => X t 1) ≤ H k 1) ∧ F' = updF F (v + cdv (Lm ta n) p 6) (min (F (v + cdv (Lm ta n) p 6)) (B v + 1)) ∨ ¬ (wgt p (fun t => X t 0) ≤ H k 0 ∧ wgt p (fun t => X t 1) ≤ H k 1) ∧ F' = F) : CN ta X H n NH k B v (i + 1) F' := by
  have ha := h.1.1 _ (all_729 h729)
  have hBa := hB.2.1
  have hBv : B v < 98 := by rcases hnp with q | q <;> omega
  have hpL : ∀ t, t < 6 → p t + dg (Lm ta n) v t ≤ Lm ta n t := fun t ht => by
    have h1 := dg_le (L := Lv ta n v) (i := i + 1) (t := t)
    have h2 := dg_le (L := Lm ta n) (i := v) (t := t)
    rw [← hp t ht] at h1
    unfold Lv at h1
    omega
  have evp : v + cdv (Lm ta n) p 6 = cdv (Lm ta n) (fun t => dg (Lm ta n) v t + p t) 6 := by
    rw [cdv_add]
    have q := qu_sum (Lm ta n) v 6
    rw [qu_of hv, Nat.zero_mul, Nat.add_zero] at q
    omega
  -- what a set of that code is made of
  have split : ∀ s, sbs s (fl n) → cds ta n s = v + cdv (Lm ta n) p 6 → (wgt p (fun t => X t 0) ≤ H k 0 ∧ wgt p (fun t => X t 1) ≤ H k 1) → RM (fitS ta X H) (k + 1) s (B v + 1) := by
    intro s hs hc hft
    have s4 : s < 4096 := Nat.lt_of_lt_of_le (fl_lt hs) (fl_4096 ok.1)
    have hct : ∀ t, t < 6 → ct ta t s = dg (Lm ta n) v t + p t := cdv_un (L := Lm ta n) (fun t _ => ct_Lm hs) (fun t ht => by have := hpL t ht; omega) (by rw [← evp]; exact hc)
    obtain ⟨q, q4, q1, q2⟩ := pick (ta := ta) (s := s) (p := p) (ty6 ok hs) (fun t ht => by have := hct t ht; omega)
    have hq := sbs_trans q1 hs
    have hd := rst_and (s := s) (q := q) s4
    have ho := rst_or s4 q1
    have hqz : q ≠ 0 := fun z => by
      obtain ⟨t, t6, tz⟩ := hpz
      have := q2 t t6
      rw [z] at this
      have e : ct ta t 0 = 0 := smt_0 _
      omega
    have hr := sbs_trans (rst_sbs (q := q) s4) hs
    have hcr : cds ta n (rst s q) = v := by
      have e1 := cds_un (ta := ta) (n := n) hd
      have e2 : cds ta n q = cdv (Lm ta n) p 6 := cdv_congr q2
      rw [ho, hc, e2] at e1
      omega
    have hnf : rst s q ≠ fl n := fun z => by
      obtain ⟨j, hj⟩ := bit_ex hqz
      have h1 : (rst s q).testBit j = true := by rw [z]; exact hq j hj
      rw [rst_bit s4, hj] at h1
      simp at h1
    have hRM : RM (fitS ta X H) k (rst s q) (B v) := by
      rcases hB.2.2.1 (rst s q) hr with z | z | z
      · rw [hcr] at z; omega
      · rw [hcr] at z; exact z
      · exact absurd z.1 hnf
    refine Or.inr ⟨rst s q, q, B v, hqz, hd, ho.symm, ⟨?_, ?_⟩, rfl, hRM⟩
    · rw [← wgt_ct ok hq (fun t => X t 0), wgt_congr q2]; exact hft.1
    · rw [← wgt_ct ok hq (fun t => X t 1), wgt_congr q2]; exact hft.2
  rcases hF with ⟨hft, rfl⟩ | ⟨hft, rfl⟩
  · have mono : ∀ c, updF F (v + cdv (Lm ta n) p 6) (min (F (v + cdv (Lm ta n) p 6)) (B v + 1)) c ≤ F c := fun c => by
      unfold updF
      by_cases e : c = v + cdv (Lm ta n) p 6
      · rw [if_pos e, e]; omega
      · rw [if_neg e]; omega
    refine ⟨⟨fun c hc => Nat.le_trans (mono c) (h.1.1 c hc), fun s hs => ?_, fun rest part m h1 h2 h3 h4 h5 h6 => ?_⟩, fun rest part m h1 h2 h3 h4 h5 h6 h7 => ?_⟩
    · by_cases e : cds ta n s = v + cdv (Lm ta n) p 6
      · by_cases c : F (v + cdv (Lm ta n) p 6) ≤ B v + 1
        · have eF : updF F (v + cdv (Lm ta n) p 6) (min (F (v + cdv (Lm ta n) p 6)) (B v + 1)) (cds ta n s) = F (cds ta n s) := by
            unfold updF
            rw [if_pos e, e]; omega
          rw [eF]
          exact h.1.2.1 s hs
        · have eF : updF F (v + cdv (Lm ta n) p 6) (min (F (v + cdv (Lm ta n) p 6)) (B v + 1)) (cds ta n s) = B v + 1 := by
            unfold updF
            rw [if_pos e]; omega
          rw [eF]
          exact Or.inr (Or.inl (split s hs e hft))
      · have eF : updF F (v + cdv (Lm ta n) p 6) (min (F (v + cdv (Lm ta n) p 6)) (B v + 1)) (cds ta n s) = F (cds ta n s) := if_neg e
        rw [eF]
        exact h.1.2.1 s hs
    · have a1 := mono (cds ta n (rest ||| part))
      have a2 := mono (cds ta n (fl n))
      rcases h.1.2.2 rest part m h1 h2 h3 h4 h5 h6 with z | z
      · exact Or.inl (by omega)
      · exact Or.inr (by omega)
    · obtain ⟨j, j1, j2, j3⟩ := h7
      by_cases e : j = i + 1
      · have e2 : cds ta n (rest ||| part) = v + cdv (Lm ta n) p 6 := by
          rw [cds_un h2, h5]
          have : cds ta n part = cdv (Lm ta n) p 6 := cdv_congr (fun t ht => by rw [hp t ht, ← e]; exact j3 t ht)
          rw [this]
        refine Or.inl ?_
        unfold updF
        rw [if_pos e2]
        omega
      · have a1 := mono (cds ta n (rest ||| part))
        have a2 := mono (cds ta n (fl n))
        rcases h.2 rest part m h1 h2 h3 h4 h5 h6 ⟨j, j1, by omega, j3⟩ with z | z
        · exact Or.inl (by omega)
        · exact Or.inr (by omega)
  · refine ⟨h.1, fun rest part m h1 h2 h3 h4 h5 h6 h7 => ?_⟩
    obtain ⟨j, j1, j2, j3⟩ := h7
    by_cases e : j = i + 1
    · refine absurd ⟨?_, ?_⟩ hft
      · have q := wgt_ct ok (sbs_r h3) (fun t => X t 0)
        have q2 : wgt p (fun t => X t 0) = wgt (fun t => ct ta t part) (fun t => X t 0) := wgt_congr (fun t ht => by rw [hp t ht, ← e]; exact (j3 t ht).symm)
        rw [q2, q]; exact h4.1
      · have q := wgt_ct ok (sbs_r h3) (fun t => X t 1)
        have q2 : wgt p (fun t => X t 1) = wgt (fun t => ct ta t part) (fun t => X t 1) := wgt_congr (fun t ht => by rw [hp t ht, ← e]; exact (j3 t ht).symm)
        rw [q2, q]; exact h4.2
    · exact h.2 rest part m h1 h2 h3 h4 h5 h6 ⟨j, j1, by omega, j3⟩
theorem CN_end (ok : okT ta n) (h729 : std (Lm ta n) 6 ≤ 729) {k v i : Nat} {B F : Nat → Nat} (hB : CI ta X H n NH k B) (h : CN ta X H n NH k B v i F) (hi : std (Lv ta n v) 6 ≤ i + 1) : CM ta X H n NH k B (v + 1) F := by
  refine ⟨h.1.1, h.1.2.1, fun rest part m h1 h2 h3 h4 h5 h6 => ?_⟩
  by_cases e : cds ta n rest = v
  · have ha := h.1.1 _ (all_729 h729)
    rcases hB.2.2.2 rest m (sbs_l h3) h5 with q | q
    · rw [e] at q
      have hp : ∀ t, t < 6 → ct ta t part ≤ Lv ta n v t := fun t ht => by
        have a1 := ct_un (ta := ta) (t := t) h2
        have a2 := ct_Lm (ta := ta) (t := t) h3
        have a3 := dg_cds (ta := ta) (sbs_l h3) t ht
        rw [e] at a3
        unfold Lv
        omega
      have ⟨d1, d2⟩ := dg_cdv (L := Lv ta n v) (p := fun t => ct ta t part) (k := 6) hp
      have d3 := qu_lt d1
      refine h.2 rest part m h1 h2 h3 h4 e q ⟨cdv (Lv ta n v) (fun t => ct ta t part) 6, ?_, by omega, fun t ht => (d2 t ht).symm⟩
      obtain ⟨j, hj⟩ := bit_ex h1
      have hjn := sbs_r h3 j hj
      rw [fl_bit] at hjn
      have hjn : j < n := by simpa using hjn
      have hj6 := ok.2 j hjn
      have z1 := ct_bit (ta := ta) (t := ta j) (show j < 12 by have := ok.1; omega) hj rfl
      have z2 := sn_pos (g := fun t => ct ta t part * std (Lv ta n v) t) hj6
      have z3 := std_pos (Lv ta n v) (ta j)
      have z4 : 1 * 1 ≤ ct ta (ta j) part * std (Lv ta n v) (ta j) := Nat.mul_le_mul z1 z3
      show 1 ≤ sn (fun t => ct ta t part * std (Lv ta n v) t) 6
      omega
    · omega
  · exact h.1.2.2 rest part m h1 h2 h3 h4 h5 (by omega)
theorem CI_end (h729 : std (Lm ta n) 6 ≤ 729) {k : Nat} {B F : Nat → Nat} (hB : CI ta X H n NH k B) (h : CM ta X H n NH k B (std (Lm ta n) 6) F) : CI ta X H n NH (k + 1) F := by
  have ha := h.1 _ (all_729 h729)
  refine ⟨fun c hc => Nat.le_trans (h.1 c hc) (hB.1 c hc), Nat.lt_of_le_of_lt ha hB.2.1, h.2.1, fun s m hs hr => ?_⟩
  rcases hr with hr | ⟨rest, part, m', h1, h2, h3, h4, h5, h6⟩
  · have a1 := h.1 (cds ta n s) (Nat.lt_of_lt_of_le (cds_lt hs) h729)
    rcases hB.2.2.2 s m hs hr with z | z
    · exact Or.inl (by omega)
    · exact Or.inr (by omega)
  · rw [h3] at hs
    have := h.2.2 rest part m' h1 h2 hs h4 h6 (cds_lt (sbs_l hs))
    rw [h3, h5]
    exact this
/-- the reference's numbers after k hosts -/
def MI (ta : Nat → Nat) (X H : Nat → Nat → Nat) (n k : Nat) (F : Nat → Nat) : Prop := (∀ s, s < 2 ^ n → F s ≤ 1000 ∧ (F s < 1000 → RM (fitS ta X H) k s (F s))) ∧ ∀ s m, s < 2 ^ n → RM (fitS ta X H) k s m → F s ≤ m
def MM (ta : Nat → Nat) (X H : Nat → Nat → Nat) (n k : Nat) (B : Nat → Nat) (q : Nat) (F : Nat → Nat) : Prop := (∀ s, s < 2 ^ n → F s ≤ B s ∧ (F s < 1000 → RM (fitS ta X H) (k + 1) s (F s))) ∧ ∀ rest part, part ≠ 0 → part < q → rest &&& part = 0 → rest ||| part < 2 ^ n → fitS ta X H k part → F (rest ||| part) ≤ B rest + 1
def MN (ta : Nat → Nat) (X H : Nat → Nat → Nat) (n k : Nat) (B : Nat → Nat) (q r : Nat) (F : Nat → Nat) : Prop := MM ta X H n k B q F ∧ ∀ rest, rest &&& q = 0 → rest ||| q < 2 ^ n → r ≤ rest → F (rest ||| q) ≤ B rest + 1
theorem MI_start {F : Nat → Nat} (e0 : F 0 = 0) (e1 : ∀ s, s < 2 ^ n → s ≠ 0 → F s = 1000) : MI ta X H n 0 F := by
  refine ⟨fun s hs => ?_, fun s m hs hr => ?_⟩
  · by_cases e : s = 0
    · rw [e, e0]; exact ⟨by omega, fun _ => ⟨rfl, rfl⟩⟩
    · rw [e1 s hs e]; exact ⟨Nat.le_refl _, fun z => by omega⟩
  · rw [hr.1, e0]; omega
theorem MM_start {k : Nat} {B : Nat → Nat} (h : MI ta X H n k B) : MM ta X H n k B 1 B := ⟨fun s hs => ⟨Nat.le_refl _, fun z => Or.inl ((h.1 s hs).2 z)⟩, fun rest part h1 h2 => by omega⟩
theorem MM_skip {k q : Nat} {B F : Nat → Nat} (h : MM ta X H n k B q F) (hf : ¬ fitS ta X H k q) : MM ta X H n k B (q + 1) F := ⟨h.1, fun rest part h1 h2 h3 h4 h5 => by
  by_cases e : part = q
  · rw [e] at h5; exact absurd h5 hf
  · exact h.2 rest part h1 (by omega) h3 h4 h5⟩
theorem MN_start {k q r : Nat} {B F : Nat → Nat} (h : MM ta X H n k B q F) (hr : ∀ rest, rest &&& q = 0 → rest ||| q < 2 ^ n → rest < r) : MN ta X H n k B q r F := ⟨h, fun rest h1 h2 h3 => by have := hr rest h1 h2; omega⟩
theorem MN_end {k q : Nat} {B F : Nat → Nat} (h : MN ta X H n k B q 0 F) : MM ta X H n k B (q + 1) F := ⟨h.1.1, fun rest part h1 h2 h3 h4 h5 => by
  by_cases e : part = q
  · rw [e] at h3 h4 ⊢; exact h.2 rest h3 h4 (by omega)
  · exact h.1.2 rest part h1 (by omega) h3 h4 h5⟩
theorem MN_step {k q r r' : Nat} {B F : Nat → Nat} (hB : MI ta X H n k B) (h : MN ta X H n k B q r' F) (hq : q ≠ 0) (hf : fitS ta X H k q) (hd : r &&& q = 0) (ho : r ||| q < 2 ^ n) (hr : ∀ rest, rest &&& q = 0 → rest ||| q < 2 ^ n → rest < r' → rest ≤ r) (r4 : r < 2 ^ n) : MN ta X H n k B q r (updF F (r ||| q) (if B r + 1 < F (r ||| q) then B r + 1 else F (r ||| q))) := by
  have mono : ∀ c, updF F (r ||| q) (if B r + 1 < F (r ||| q) then B r + 1 else F (r ||| q)) c ≤ F c := fun c => by
    unfold updF
    by_cases e : c = r ||| q
    · rw [if_pos e, e]; split <;> omega
    · rw [if_neg e]; omega
  refine ⟨⟨fun s hs => ⟨Nat.le_trans (mono s) (h.1.1 s hs).1, fun hl => ?_⟩, fun rest part h1 h2 h3 h4 h5 => Nat.le_trans (mono _) (h.1.2 rest part h1 h2 h3 h4 h5)⟩, fun rest h1 h2 h3 => ?_⟩
  · unfold updF at hl ⊢
    by_cases e : s = r ||| q
    · rw [if_pos e] at hl ⊢
      by_cases c : B r + 1 < F (r ||| q)
      · rw [if_pos c] at hl ⊢
        refine Or.inr ⟨r, q, B r, hq, hd, e, hf, rfl, (hB.1 r r4).2 (by omega)⟩
      · rw [if_neg c] at hl ⊢
        rw [e]
        exact (h.1.1 _ ho).2 hl
    · rw [if_neg e] at hl ⊢
      exact (h.1.1 s hs).2 hl
  · by_cases c : r' ≤ rest
    · exact Nat.le_trans (mono _) (h.2 rest h1 h2 c)
    · have : rest = r := by have := hr rest h1 h2 (by omega); omega
      rw [this]
      unfold updF
      rw [if_pos rfl]
      split <;> omega
theorem MI_end {k : Nat} {B F : Nat → Nat} (hB : MI ta X H n k B) (h : MM ta X H n k B (2 ^ n) F) : MI ta X H n (k + 1) F := by
  refine ⟨fun s hs => ⟨Nat.le_trans (h.1 s hs).1 (hB.1 s hs).1, (h.1 s hs).2⟩, fun s m hs hr => ?_⟩
  rcases hr with hr | ⟨rest, part, m', h1, h2, h3, h4, h5, h6⟩
  · exact Nat.le_trans (h.1 s hs).1 (hB.2 s m hs hr)
  · rw [h3] at hs
    have hp : part < 2 ^ n := Nat.lt_of_le_of_lt (sbs_le sbs_or.2) hs
    have hr : rest < 2 ^ n := Nat.lt_of_le_of_lt (sbs_le sbs_or.1) hs
    have a := h.2 rest part h1 hp h2 hs h4
    have b := hB.2 rest m' hr h6
    rw [h3, h5]
    omega
/-- both are the least number -/
theorem CI_MI {F G : Nat → Nat} (h : CI ta X H n NH NH F) (g : MI ta X H n NH G) : F (cds ta n (fl n)) = G (fl n) := by
  have hn : fl n < 2 ^ n := fl_lt (fun _ h => h)
  have a1 : RM (fitS ta X H) NH (fl n) (F (cds ta n (fl n))) := by
    have := h.2.1
    rcases h.2.2.1 (fl n) (fun _ h => h) with z | z | z
    · omega
    · exact z
    · exact z.2
  have b1 := g.2 _ _ hn a1
  have b2 := (g.1 _ hn).2 (by have := h.2.1; omega)
  rcases h.2.2.2 (fl n) _ (fun _ h => h) b2 with z | z
  · omega
  · omega
/-- the next subset downwards -/
theorem sub_nx : ∀ (b r s o : Nat), o < 2 ^ b → sbs r o → sbs s o → r < s → r ≤ (s - 1) &&& o
  | 0, r, s, o, ho, hr, hs, h => by
    have : o = 0 := by simpa using ho
    have := sbs_le hs
    omega
  | b + 1, r, s, o, ho, hr, hs, h => by
    have bit0 : ∀ a : Nat, a.testBit 0 = decide (a % 2 = 1) := fun a => Nat.testBit_zero a
    have half : ∀ a j : Nat, (a / 2).testBit j = a.testBit (j + 1) := fun a j => (Nat.testBit_succ a j).symm
    have hr2 : sbs (r / 2) (o / 2) := fun j hj => by rw [half] at hj ⊢; exact hr _ hj
    have hs2 : sbs (s / 2) (o / 2) := fun j hj => by rw [half] at hj ⊢; exact hs _ hj
    have r0 : r % 2 = 1 → o % 2 = 1 := fun z => by
      have := hr 0 (by rw [bit0]; simp [z])
      rw [bit0] at this
      simpa using this
    have e : ((s - 1) &&& o) = 2 * (((s - 1) / 2) &&& (o / 2)) + ((s - 1) &&& o) % 2 := by
      have := Nat.div_add_mod ((s - 1) &&& o) 2
      rw [Nat.and_div_two] at this
      omega
    by_cases c : s % 2 = 1
    · have e1 : (s - 1) / 2 = s / 2 := by omega
      have e2 : (s / 2) &&& (o / 2) = s / 2 := by
        refine Nat.eq_of_testBit_eq (fun j => ?_)
        rw [Nat.testBit_and]
        have := hs2 j
        cases h1 : (s / 2).testBit j <;> simp_all
      rw [e, e1, e2]
      omega
    · have e1 : (s - 1) / 2 = s / 2 - 1 := by omega
      have ih := sub_nx b (r / 2) (s / 2) (o / 2) (by rw [Nat.pow_succ] at ho; omega) hr2 hs2 (by omega)
      have e3 : ((s - 1) &&& o) % 2 = o % 2 := by
        have q : ((s - 1) &&& o).testBit 0 = ((s - 1).testBit 0 && o.testBit 0) := Nat.testBit_and _ _ _
        rw [bit0, bit0, bit0] at q
        have z : (s - 1) % 2 = 1 := by omega
        simp only [z, decide_true, Bool.true_and, decide_eq_decide] at q
        omega
      rw [e, e1, e3]
      have := r0
      omega
end PK
