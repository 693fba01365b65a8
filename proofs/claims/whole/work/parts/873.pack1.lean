/-! ===== the fewest hosts: sets, types and codes ===== -/
theorem sn_add (g h : Nat → Nat) : ∀ n, sn (fun k => g k + h k) n = sn g n + sn h n
  | 0 => rfl
  | n + 1 => by rw [sn, sn, sn, sn_add g h n]; omega
theorem sn_0 : ∀ n, sn (fun _ => 0) n = 0
  | 0 => rfl
  | n + 1 => by rw [sn, sn_0 n]
theorem sn_swap (f : Nat → Nat → Nat) (a : Nat) : ∀ b, sn (fun i => sn (f i) b) a = sn (fun j => sn (fun i => f i j) a) b
  | 0 => by
    show sn (fun i => 0) a = 0
    exact sn_0 a
  | b + 1 => by
    have e : sn (fun i => sn (f i) (b + 1)) a = sn (fun i => sn (f i) b + f i b) a := rfl
    rw [e, sn_add, sn_swap f a b]
    rfl
theorem sn_at {g : Nat → Nat} {j : Nat} : ∀ {n : Nat}, j < n → (∀ k, k < n → k ≠ j → g k = 0) → sn g n = g j
  | 0, h, _ => by omega
  | n + 1, h, hz => by
    rw [sn]
    by_cases e : j = n
    · subst e
      rw [sn_congr (g := g) (g' := fun _ => 0) (fun k hk => hz k (by omega) (by omega)), sn_0]
      omega
    · rw [sn_at (g := g) (j := j) (n := n) (by omega) (fun k hk hn => hz k (by omega) hn), hz n (by omega) (fun q => e q.symm)]
      omega
theorem sn_pos {g : Nat → Nat} {j : Nat} : ∀ {n : Nat}, j < n → g j ≤ sn g n
  | 0, h => by omega
  | n + 1, h => by
    rw [sn]
    by_cases e : j = n
    · rw [e]; omega
    · have := sn_pos (g := g) (j := j) (n := n) (by omega)
      omega
theorem smt_un {g : Nat → Nat} {a b : Nat} (h : a &&& b = 0) : smt g (a ||| b) = smt g a + smt g b := by
  unfold smt
  rw [← sn_add]
  refine sn_congr (fun i _ => ?_)
  have q : (a &&& b).testBit i = false := by rw [h]; simp
  rw [Nat.testBit_and] at q
  rw [Nat.testBit_or]
  cases ha : a.testBit i <;> cases hb : b.testBit i <;> simp_all
/-- how many of a set are of a type -/
def ct (ta : Nat → Nat) (t s : Nat) : Nat := smt (fun j => if ta j = t then 1 else 0) s
theorem ct_un {ta : Nat → Nat} {t a b : Nat} (h : a &&& b = 0) : ct ta t (a ||| b) = ct ta t a + ct ta t b := smt_un h
theorem ct_sum {ta : Nat → Nat} {s : Nat} (h : ∀ j, j < 12 → s.testBit j = true → ta j < 6) (X : Nat → Nat) : sn (fun t => ct ta t s * X t) 6 = smt (fun j => X (ta j)) s := by
  have e1 : sn (fun t => ct ta t s * X t) 6 = sn (fun t => sn (fun j => (if s.testBit j then (if ta j = t then 1 else 0) else 0) * X t) 12) 6 := by
    refine sn_congr (fun t _ => ?_)
    unfold ct smt
    have : ∀ (g : Nat → Nat) (c n : Nat), sn g n * c = sn (fun j => g j * c) n := by
      intro g c n
      induction n with
      | zero => simp [sn]
      | succ n ih => rw [sn, sn, Nat.add_mul, ih]
    exact this _ _ _
  rw [e1, sn_swap]
  unfold smt
  refine sn_congr (fun j hj => ?_)
  cases hb : s.testBit j with
  | false => simp [sn_0]
  | true =>
    have hlt := h j hj hb
    rw [sn_at hlt (fun k _ hk => by
      simp only [if_true]
      rw [if_neg (fun z => hk z.symm), Nat.zero_mul])]
    simp
theorem ct_le {ta : Nat → Nat} {t a b : Nat} (h : sbs a b) : ct ta t a ≤ ct ta t b := smt_le h
/-- a part with given numbers of each type can be chosen -/
theorem pickL {ta : Nat → Nat} {s : Nat} : ∀ (n : Nat) (p : Nat → Nat), (∀ t, p t ≤ sn (fun j => if s.testBit j then (if ta j = t then 1 else 0) else 0) n) → ∃ Q : Nat → Bool, (∀ j, Q j = true → j < n ∧ s.testBit j = true) ∧ ∀ t, sn (fun j => if Q j then (if ta j = t then 1 else 0) else 0) n = p t
  | 0, p, h => ⟨fun _ => false, (fun j hj => by cases hj), fun t => by
      have := h t
      simp only [sn] at this ⊢
      omega⟩
  | n + 1, p, h => by
    by_cases c : s.testBit n = true ∧ sn (fun j => if s.testBit j then (if ta j = ta n then 1 else 0) else 0) n < p (ta n)
    · obtain ⟨c1, c2⟩ := c
      obtain ⟨Q, q1, q2⟩ := pickL (ta := ta) (s := s) n (fun t => if t = ta n then p t - 1 else p t) (fun t => by
        have := h t
        rw [sn, c1] at this
        simp only [if_true] at this
        show (if t = ta n then p t - 1 else p t) ≤ _
        by_cases e : t = ta n
        · rw [if_pos e.symm] at this
          rw [if_pos e]; omega
        · rw [if_neg (fun z => e z.symm)] at this
          rw [if_neg e]; omega)
      refine ⟨fun j => Q j || decide (j = n), fun j hj => ?_, fun t => ?_⟩
      · by_cases e : j = n
        · rw [e]; exact ⟨by omega, c1⟩
        · have : Q j = true := by simpa [e] using hj
          have := q1 j this
          exact ⟨by omega, this.2⟩
      · have z := q2 t
        have e : sn (fun j => if (Q j || decide (j = n)) = true then (if ta j = t then 1 else 0) else 0) n = sn (fun j => if Q j = true then (if ta j = t then 1 else 0) else 0) n := sn_congr (fun j hj => by
          have : ¬ j = n := by omega
          simp [this])
        rw [sn, e, z]
        have hh := h t
        rw [sn, c1] at hh
        simp only [if_true, decide_true, Bool.or_true] at hh ⊢
        by_cases e2 : t = ta n
        · rw [if_pos e2, if_pos e2.symm]
          rw [← e2] at c2
          omega
        · rw [if_neg e2, if_neg (fun z => e2 z.symm)]
          omega
    · obtain ⟨Q, q1, q2⟩ := pickL (ta := ta) (s := s) n p (fun t => by
        have := h t
        rw [sn] at this
        by_cases c1 : s.testBit n = true
        · rw [c1] at this
          simp only [if_true] at this
          by_cases e : ta n = t
          · have : ¬ sn (fun j => if s.testBit j then (if ta j = ta n then 1 else 0) else 0) n < p (ta n) := fun z => c ⟨c1, z⟩
            rw [e] at this
            omega
          · rw [if_neg e] at this
            omega
        · rw [if_neg c1] at this
          omega)
      refine ⟨Q, fun j hj => ⟨by have := q1 j hj; omega, (q1 j hj).2⟩, fun t => ?_⟩
      have : Q n = false := by
        cases hq : Q n with
        | false => rfl
        | true => have := q1 n hq; omega
      rw [sn, q2 t, this]
      simp
theorem pick {ta : Nat → Nat} {s : Nat} {p : Nat → Nat} (h6 : ∀ j, j < 12 → s.testBit j = true → ta j < 6) (h : ∀ t, t < 6 → p t ≤ ct ta t s) : ∃ q, q < 4096 ∧ sbs q s ∧ ∀ t, t < 6 → ct ta t q = p t := by
  obtain ⟨Q, q1, q2⟩ := pickL (ta := ta) (s := s) 12 (fun t => if t < 6 then p t else 0) (fun t => by
    show (if t < 6 then p t else 0) ≤ _
    split
    · rename_i c; exact h t c
    · omega)
  refine ⟨bs Q 12, bs_lt _ _, fun i hi => ?_, fun t ht => ?_⟩
  · rw [bs_bit] at hi
    have : Q i = true := by
      simp at hi; exact hi.2
    exact (q1 i this).2
  · have z := q2 t
    simp only [ht, if_true] at z
    rw [← z]
    unfold ct smt
    refine sn_congr (fun j hj => ?_)
    rw [bs_bit]
    simp [hj]
/-- what is left of a set -/
def rst (s q : Nat) : Nat := bs (fun j => s.testBit j && !q.testBit j) 12
theorem rst_bit {s q j : Nat} (hs : s < 4096) : (rst s q).testBit j = (s.testBit j && !q.testBit j) := by
  unfold rst
  rw [bs_bit]
  by_cases h : j < 12
  · simp [h]
  · have : s.testBit j = false := by
      cases hb : s.testBit j with
      | false => rfl
      | true => exact absurd (bit_lt hs hb) h
    simp [this]
theorem rst_lt (s q : Nat) : rst s q < 4096 := bs_lt _ _
theorem rst_or {s q : Nat} (hs : s < 4096) (h : sbs q s) : rst s q ||| q = s := by
  refine Nat.eq_of_testBit_eq (fun j => ?_)
  rw [Nat.testBit_or, rst_bit hs]
  have := h j
  cases hq : q.testBit j <;> cases h2 : s.testBit j <;> simp_all
theorem rst_and {s q : Nat} (hs : s < 4096) : rst s q &&& q = 0 := by
  refine Nat.eq_of_testBit_eq (fun j => ?_)
  rw [Nat.testBit_and, rst_bit hs]
  cases q.testBit j <;> simp
theorem rst_sbs {s q : Nat} (hs : s < 4096) : sbs (rst s q) s := fun j h => by
  rw [rst_bit hs] at h
  simp at h
  exact h.1
theorem sbs_or {a b : Nat} : sbs a (a ||| b) ∧ sbs b (a ||| b) := ⟨fun i h => by rw [Nat.testBit_or, h]; rfl, fun i h => by rw [Nat.testBit_or, h]; simp⟩
theorem sbs_trans {a b c : Nat} (h : sbs a b) (h2 : sbs b c) : sbs a c := fun i hi => h2 i (h i hi)
/-- mixed digits -/
def qu (L : Nat → Nat) (i : Nat) : Nat → Nat
  | 0 => i
  | t + 1 => qu L i t / (L t + 1)
def dg (L : Nat → Nat) (i t : Nat) : Nat := qu L i t % (L t + 1)
def std (L : Nat → Nat) : Nat → Nat
  | 0 => 1
  | t + 1 => std L t * (L t + 1)
def cdv (L p : Nat → Nat) (k : Nat) : Nat := sn (fun t => p t * std L t) k
theorem std_pos (L : Nat → Nat) : ∀ t, 0 < std L t
  | 0 => by simp [std]
  | t + 1 => by rw [std]; exact Nat.mul_pos (std_pos L t) (by omega)
theorem dg_le {L : Nat → Nat} {i t : Nat} : dg L i t ≤ L t := by
  have := Nat.mod_lt (qu L i t) (show L t + 1 > 0 by omega)
  unfold dg
  omega
theorem qu_sum (L : Nat → Nat) (i : Nat) : ∀ k, cdv L (dg L i) k + qu L i k * std L k = i
  | 0 => by simp [cdv, sn, qu, std]
  | k + 1 => by
    have ih := qu_sum L i k
    have e : cdv L (dg L i) (k + 1) = cdv L (dg L i) k + dg L i k * std L k := rfl
    rw [e, qu, std]
    have d : qu L i k = (L k + 1) * (qu L i k / (L k + 1)) + dg L i k := (Nat.div_add_mod _ _).symm
    have m : qu L i k * std L k = (L k + 1) * (qu L i k / (L k + 1)) * std L k + dg L i k * std L k := by
      rw [← Nat.add_mul, ← d]
    have m2 : qu L i k / (L k + 1) * (std L k * (L k + 1)) = (L k + 1) * (qu L i k / (L k + 1)) * std L k := by
      rw [Nat.mul_comm (std L k), ← Nat.mul_assoc, Nat.mul_comm (qu L i k / (L k + 1))]
    rw [m2]
    omega
theorem cdv_lt {L p : Nat → Nat} : ∀ {k : Nat}, (∀ t, t < k → p t ≤ L t) → cdv L p k < std L k
  | 0, _ => by simp [cdv, sn, std]
  | k + 1, h => by
    have ih := cdv_lt (L := L) (p := p) (k := k) (fun t ht => h t (by omega))
    have e : cdv L p (k + 1) = cdv L p k + p k * std L k := rfl
    rw [e, std, Nat.mul_add, Nat.mul_one]
    have : p k * std L k ≤ std L k * L k := by
      rw [Nat.mul_comm]
      exact Nat.mul_le_mul_left _ (h k (by omega))
    omega
theorem qu_cdv {L p : Nat → Nat} : ∀ (k r : Nat), (∀ t, t < k → p t ≤ L t) → qu L (cdv L p k + r * std L k) k = r ∧ ∀ t, t < k → dg L (cdv L p k + r * std L k) t = p t
  | 0, r, _ => by
    refine ⟨by simp [cdv, sn, std, qu], fun t ht => by omega⟩
  | k + 1, r, h => by
    have hk := h k (by omega)
    have e : cdv L p (k + 1) + r * std L (k + 1) = cdv L p k + (p k + r * (L k + 1)) * std L k := by
      have e1 : cdv L p (k + 1) = cdv L p k + p k * std L k := rfl
      rw [e1, std, Nat.add_mul, Nat.mul_comm (std L k), ← Nat.mul_assoc]
      omega
    have ⟨i1, i2⟩ := qu_cdv (L := L) (p := p) k (p k + r * (L k + 1)) (fun t ht => h t (by omega))
    rw [e]
    refine ⟨?_, fun t ht => ?_⟩
    · rw [qu, i1, Nat.add_mul_div_right _ _ (by omega), Nat.div_eq_of_lt (by omega)]
      omega
    · by_cases q : t = k
      · rw [q]
        unfold dg
        rw [i1, Nat.add_mul_mod_self_right, Nat.mod_eq_of_lt (by omega)]
      · exact i2 t (by omega)
theorem dg_cdv {L p : Nat → Nat} {k : Nat} (h : ∀ t, t < k → p t ≤ L t) : qu L (cdv L p k) k = 0 ∧ ∀ t, t < k → dg L (cdv L p k) t = p t := by
  have q := qu_cdv k 0 h
  rw [Nat.zero_mul, Nat.add_zero] at q
  exact q
theorem cdv_un {L p p' : Nat → Nat} {k : Nat} (h : ∀ t, t < k → p t ≤ L t) (h' : ∀ t, t < k → p' t ≤ L t) (e : cdv L p k = cdv L p' k) : ∀ t, t < k → p t = p' t := fun t ht => by
  rw [← (dg_cdv h).2 t ht, ← (dg_cdv h').2 t ht, e]
theorem qu_lt {L : Nat → Nat} {i k : Nat} (h : qu L i k = 0) : i < std L k := by
  have q := qu_sum L i k
  rw [h, Nat.zero_mul, Nat.add_zero] at q
  rw [← q]
  exact cdv_lt (fun t _ => dg_le)
theorem qu_of {L : Nat → Nat} {i k : Nat} (h : i < std L k) : qu L i k = 0 := by
  have q := qu_sum L i k
  cases z : qu L i k with
  | zero => rfl
  | succ n =>
    rw [z, Nat.add_mul, Nat.one_mul] at q
    omega
theorem cdv_add (L p p' : Nat → Nat) (k : Nat) : cdv L (fun t => p t + p' t) k = cdv L p k + cdv L p' k := by
  unfold cdv
  rw [← sn_add]
  exact sn_congr (fun t _ => Nat.add_mul _ _ _)
theorem cdv_congr {L p p' : Nat → Nat} {k : Nat} (h : ∀ t, t < k → p t = p' t) : cdv L p k = cdv L p' k := sn_congr (fun t ht => by rw [h t ht])
theorem std_mono {L L' : Nat → Nat} : ∀ {k : Nat}, (∀ t, t < k → L' t ≤ L t) → std L' k ≤ std L k
  | 0, _ => Nat.le_refl _
  | k + 1, h => Nat.mul_le_mul (std_mono (fun t ht => h t (by omega))) (by have := h k (by omega); omega)
/-- the greatest number of rows -/
def mxp : Nat → Nat → Nat
  | 0, _ => 1
  | k + 1, n => itr (fun c a => if a < mxp k (n - c) * (c + 1) then mxp k (n - c) * (c + 1) else a) 0 (n + 1) 0
theorem mxp_ge {k n c : Nat} (hc : c ≤ n) : mxp k (n - c) * (c + 1) ≤ mxp (k + 1) n := by
  have key : ∀ m, m ≤ n + 1 → c < m → mxp k (n - c) * (c + 1) ≤ itr (fun c a => if a < mxp k (n - c) * (c + 1) then mxp k (n - c) * (c + 1) else a) 0 m 0 := by
    intro m
    induction m with
    | zero => intro _ h; omega
    | succ m ih =>
      intro h1 h2
      rw [itr_last, Nat.zero_add]
      by_cases e : c = m
      · rw [← e]
        split <;> omega
      · have := ih (by omega) (by omega)
        split <;> omega
  exact key (n + 1) (by omega) (by omega)
theorem std_mxp {L : Nat → Nat} : ∀ (k n : Nat), sn L k ≤ n → std L k ≤ mxp k n
  | 0, n, _ => by simp [std, mxp]
  | k + 1, n, h => by
    rw [sn] at h
    refine Nat.le_trans ?_ (mxp_ge (k := k) (n := n) (c := L k) (by omega))
    rw [std]
    exact Nat.mul_le_mul_right _ (std_mxp k (n - L k) (by omega))
theorem mxp_is : mxp 6 12 = 729 := by decide +kernel
/-- the next row of digits -/
theorem dg_nx {L : Nat → Nat} {i : Nat} : ∀ {k : Nat}, (∀ j, j < k → dg L i j = L j) → qu L (i + 1) k = qu L i k + 1 ∧ ∀ j, j < k → dg L (i + 1) j = 0
  | 0, _ => ⟨rfl, fun j hj => by omega⟩
  | k + 1, h => by
    have ⟨a, c⟩ := dg_nx (L := L) (i := i) (k := k) (fun j hj => h j (by omega))
    have hk := h k (by omega)
    unfold dg at hk
    have e : qu L i k + 1 = (L k + 1) * (qu L i k / (L k + 1) + 1) := by
      have := Nat.div_add_mod (qu L i k) (L k + 1)
      rw [Nat.mul_add, Nat.mul_one]
      omega
    refine ⟨?_, fun j hj => ?_⟩
    · rw [qu, qu, a, e, Nat.mul_div_cancel_left _ (by omega)]
    · by_cases q : j = k
      · rw [q]
        unfold dg
        rw [a, e, Nat.mul_mod_right]
      · exact c j (by omega)
theorem dg_st {L : Nat → Nat} {i k : Nat} (h : ∀ j, j < k → dg L i j = L j) (hk : dg L i k < L k) : dg L (i + 1) k = dg L i k + 1 ∧ ∀ t, k < t → qu L (i + 1) t = qu L i t ∧ dg L (i + 1) t = dg L i t := by
  have ⟨a, _⟩ := dg_nx h
  have m := Nat.div_add_mod (qu L i k) (L k + 1)
  unfold dg at hk
  have e : qu L i k + 1 = (qu L i k % (L k + 1) + 1) + qu L i k / (L k + 1) * (L k + 1) := by
    rw [Nat.mul_comm]
    omega
  have h1 : dg L (i + 1) k = dg L i k + 1 := by
    unfold dg
    rw [a, e, Nat.add_mul_mod_self_right, Nat.mod_eq_of_lt (by omega)]
  have h2 : qu L (i + 1) (k + 1) = qu L i (k + 1) := by
    rw [qu, qu, a, e, Nat.add_mul_div_right _ _ (by omega), Nat.div_eq_of_lt (by omega), Nat.zero_add]
  refine ⟨h1, fun t ht => ?_⟩
  have key : ∀ d, qu L (i + 1) (k + 1 + d) = qu L i (k + 1 + d) := by
    intro d
    induction d with
    | zero => exact h2
    | succ d ih => rw [← Nat.add_assoc, qu, qu, ih]
  have := key (t - (k + 1))
  rw [show k + 1 + (t - (k + 1)) = t by omega] at this
  refine ⟨this, ?_⟩
  unfold dg
  rw [this]
