/-! ===== sets of instances as numbers ===== -/
def bs (p : Nat → Bool) : Nat → Nat
  | 0 => 0
  | k + 1 => bs p k + (if p k then 2 ^ k else 0)
theorem bs_lt (p : Nat → Bool) : ∀ k, bs p k < 2 ^ k
  | 0 => by simp [bs]
  | k + 1 => by
    have h := bs_lt p k
    rw [bs, Nat.pow_succ]
    split <;> omega
theorem bs_bit (p : Nat → Bool) : ∀ k j, (bs p k).testBit j = (decide (j < k) && p j)
  | 0, j => by simp [bs]
  | k + 1, j => by
    have h := bs_lt p k
    have ih := bs_bit p k j
    rw [bs]
    by_cases e : j = k
    · subst e
      cases hp : p j with
      | false =>
        simp only [Bool.false_eq_true, if_false, Nat.add_zero]
        rw [ih]; simp
      | true =>
        simp only [if_true]
        rw [Nat.add_comm, Nat.testBit_two_pow_add_eq, ih]
        simp
    · cases hp : p k with
      | false =>
        simp only [Bool.false_eq_true, if_false, Nat.add_zero]
        rw [ih]
        by_cases h2 : j < k
        · simp [h2, show j < k + 1 by omega]
        · simp [h2, show ¬ j < k + 1 by omega]
      | true =>
        simp only [if_true]
        by_cases h2 : j < k
        · rw [Nat.add_comm, Nat.testBit_two_pow_add_gt h2, ih]
          simp [h2, show j < k + 1 by omega]
        · have h3 : bs p k + 2 ^ k < 2 ^ j := Nat.lt_of_lt_of_le (by omega) (Nat.pow_le_pow_right (by decide : 0 < 2) (show k + 1 ≤ j by omega))
          rw [Nat.testBit_lt_two_pow h3]
          simp [show ¬ j < k + 1 by omega]
theorem bs_ext {a b k : Nat} (ha : a < 2 ^ k) (hb : b < 2 ^ k) (h : ∀ j, j < k → a.testBit j = b.testBit j) : a = b := by
  apply Nat.eq_of_testBit_eq
  intro j
  by_cases hj : j < k
  · exact h j hj
  · have h2 : 2 ^ k ≤ 2 ^ j := Nat.pow_le_pow_right (by decide : 0 < 2) (by omega)
    rw [Nat.testBit_lt_two_pow (by omega), Nat.testBit_lt_two_pow (by omega)]
theorem bs_of {a : Nat} (h : a < 4096) : bs (fun j => a.testBit j) 12 = a := by
  refine bs_ext (k := 12) (bs_lt _ _) h (fun j hj => ?_)
  rw [bs_bit]; simp [hj]
theorem bs_congr {p q : Nat → Bool} {k : Nat} (h : ∀ j, j < k → p j = q j) : bs p k = bs q k := by
  refine bs_ext (k := k) (bs_lt _ _) (bs_lt _ _) (fun j hj => ?_)
  rw [bs_bit, bs_bit, h j hj]
theorem li_or (a b : Nat) : nI a ||| nI b = nI (a ||| b) := by
  apply Int32.toBitVec_inj.mp
  show BitVec.ofNat 32 a ||| BitVec.ofNat 32 b = BitVec.ofNat 32 (a ||| b)
  apply BitVec.eq_of_getLsbD_eq
  intro i hi
  simp [hi]
theorem li_and (a b : Nat) : nI a &&& nI b = nI (a &&& b) := by
  apply Int32.toBitVec_inj.mp
  show BitVec.ofNat 32 a &&& BitVec.ofNat 32 b = BitVec.ofNat 32 (a &&& b)
  apply BitVec.eq_of_getLsbD_eq
  intro i hi
  simp [hi]
theorem li_sh1 : ∀ j, j < 12 → (1 : Int32) <<< (nI j &&& 31) = nI (2 ^ j) := by decide
theorem li_sm : ∀ j, j < 12 → ((nI j &&& 31).toBitVec.smod 32).toNat = j := by decide
theorem li_bit {a j : Nat} (ha : a < 2 ^ 31) (hj : j < 12) : (nI a >>> (nI j &&& 31)) &&& 1 = if a.testBit j then 1 else 0 := by
  rw [pk_shrN ha _ j (li_sm j hj)]
  have h1 : a / 2 ^ j < 2 ^ 32 := Nat.lt_of_le_of_lt (Nat.div_le_self _ _) (by omega)
  rw [pk_andN h1 (m := 1) 1 rfl, Nat.testBit_eq_decide_div_mod_eq]
  have h2 : a / 2 ^ j % 2 ^ 1 = 0 ∨ a / 2 ^ j % 2 ^ 1 = 1 := by omega
  have h3 : (2 : Nat) ^ 1 = 2 := rfl
  rw [h3] at h2 ⊢
  rcases h2 with h | h
  · rw [h]; rfl
  · rw [h]; rfl
theorem sets_bs (p : Nat → Bool) : sets p = nI (bs p 12) := by
  unfold sets
  have h := itr_inv (f := fun j a => a ||| (if p j = true then (1 : Int32) <<< (nI j &&& 31) else 0)) (fun j a => a = nI (bs p j)) 12 0 0 rfl (fun i b _ hi hb => by
    rw [hb, bs]
    have hl := bs_lt p i
    cases hp : p i with
    | false =>
      simp only [Bool.false_eq_true, if_false, Nat.add_zero]
      exact li_or _ 0 |>.trans (by rw [Nat.or_zero])
    | true =>
      simp only [if_true]
      rw [li_sh1 i (by omega), li_or]
      have e := Nat.two_pow_add_eq_or_of_lt hl 1
      rw [Nat.mul_one] at e
      rw [Nat.or_comm, ← e, Nat.add_comm])
  exact h
theorem sets_lt (p : Nat → Bool) : bs p 12 < 4096 := bs_lt p 12
theorem sets_bit (p : Nat → Bool) {j : Nat} (hj : j < 12) : (sets p >>> (nI j &&& 31)) &&& 1 = if p j then 1 else 0 := by
  have h := sets_lt p
  rw [sets_bs, li_bit (by omega) hj, bs_bit]
  simp [hj]
theorem sets_inj {p q : Nat → Bool} (h : sets p = sets q) {j : Nat} (hj : j < 12) : p j = q j := by
  have h1 := sets_bit p hj
  rw [h, sets_bit q hj] at h1
  revert h1
  cases p j <;> cases q j <;> decide
theorem sets_or (p : Nat → Bool) {i : Nat} (hi : i < 12) : sets p ||| ((1 : Int32) <<< (nI i &&& 31)) = sets (fun j => decide (j = i) || p j) := by
  rw [sets_bs, sets_bs, li_sh1 i hi, li_or]
  have h := sets_lt p
  have h2 : 2 ^ i < 2 ^ 12 := Nat.pow_lt_pow_right (by decide) hi
  refine congrArg nI (bs_ext (k := 12) (Nat.or_lt_two_pow h h2) (bs_lt _ _) (fun j hj => ?_))
  rw [Nat.testBit_or, bs_bit, bs_bit, Nat.testBit_two_pow]
  simp [hj]
  by_cases e : i = j
  · simp [e]
  · simp [e, show ¬ j = i from fun q => e q.symm]
theorem sets_andn (p : Nat → Bool) {i : Nat} (hi : i < 12) : sets p &&& (((1 : Int32) <<< (nI i &&& 31)) ^^^ (-1)) = sets (fun j => !decide (j = i) && p j) := by
  rw [sets_bs, sets_bs, li_sh1 i hi]
  have h := sets_lt p
  have h2 : 2 ^ i < 2 ^ 12 := Nat.pow_lt_pow_right (by decide) hi
  have e : (nI (2 ^ i) ^^^ (-1 : Int32)) = nI (4294967295 - 2 ^ i) := by
    have : ∀ i, i < 12 → (nI (2 ^ i) ^^^ (-1 : Int32)) = nI (4294967295 - 2 ^ i) := by decide
    exact this i hi
  rw [e, li_and]
  refine congrArg nI (bs_ext (k := 12) (Nat.lt_of_le_of_lt Nat.and_le_left h) (bs_lt _ _) (fun j hj => ?_))
  rw [Nat.testBit_and, bs_bit, bs_bit]
  have q : ∀ i, i < 12 → ∀ j, j < 12 → (4294967295 - 2 ^ i).testBit j = !decide (j = i) := by decide
  rw [q i hi j hj]
  simp [hj, Bool.and_comm]
/-! how many -/
def pcl : Nat → Int32 → Int32 → Option Int32
  | 0, _, _ => none
  | n + 1, a, v => if v = 0 then some a else pcl n (a + 1) (v &&& (v - 1))
theorem bits_pcl (m : ab_Mm) : ∀ n a v, bb_X12_bits_4 n a v m = (pcl n a v).map (fun r => (r, m))
  | 0, _, _ => rfl
  | n + 1, a, v => by
    rw [bb_X12_bits_4, pcl]
    by_cases h : v = 0
    · rw [if_pos h, if_pos h]; rfl
    · rw [if_neg h, if_neg h]; exact bits_pcl m n _ _
theorem pcl_more : ∀ {n : Nat} (k : Nat) {a v r : Int32}, pcl n a v = some r → pcl (n + k) a v = some r
  | 0, _, _, _, _, h => by cases h
  | n + 1, k, a, v, r, h => by
    rw [show n + 1 + k = (n + k) + 1 by omega, pcl]
    rw [pcl] at h
    by_cases e : v = 0
    · rw [if_pos e] at h ⊢; exact h
    · rw [if_neg e] at h ⊢; exact pcl_more k h
theorem pcl_all : ∀ b, b < 64 → ∀ a, a < 64 → pcl 13 0 (nI (64 * b + a)) = some (nI (cn (fun j => (64 * b + a).testBit j) 12)) := by decide +kernel
def bcf (l : Int32) : Int32 := ((dd_J6_bitCount_0f7a4 l ([], fun _ _ => 0, fun _ _ => 0, 0)).map Prod.fst).getD 0
theorem bc_is (l : Int32) (m : ab_Mm) : dd_J6_bitCount_0f7a4 l m = some (bcf l, m) := rfl
theorem bcf_all : ∀ b, b < 64 → ∀ a, a < 64 → bcf (nI (64 * b + a)) = nI (cn (fun j => (64 * b + a).testBit j) 12) := by decide +kernel
theorem bcf_m1 : bcf (-1) = 32 := by decide +kernel
theorem bcf_n {a : Nat} (h : a < 4096) : bcf (nI a) = nI (cn (fun j => a.testBit j) 12) := by
  have q := bcf_all (a / 64) (by omega) (a % 64) (by omega)
  rwa [show 64 * (a / 64) + a % 64 = a by omega] at q
theorem bits_n {a : Nat} (h : a < 4096) (m : ab_Mm) : dd_X12_bits (nI a) m = some (nI (cn (fun j => a.testBit j) 12), m) := by
  have q := pcl_all (a / 64) (by omega) (a % 64) (by omega)
  rw [show 64 * (a / 64) + a % 64 = a by omega] at q
  have q2 := pcl_more (ab_fu - 13) q
  unfold dd_X12_bits
  rw [bits_pcl, show ab_fu = 13 + (ab_fu - 13) from rfl, q2]
  rfl
theorem bc_sets (p : Nat → Bool) (m : ab_Mm) : dd_J6_bitCount_0f7a4 (sets p) m = some (nI (cn p 12), m) := by
  rw [bc_is, sets_bs, bcf_n (sets_lt p)]
  exact congrArg (fun v => some (nI v, m)) (cn_congr (fun k hk => by rw [bs_bit]; simp [hk]))
theorem bits_sets (p : Nat → Bool) (m : ab_Mm) : dd_X12_bits (sets p) m = some (nI (cn p 12), m) := by
  rw [sets_bs, bits_n (sets_lt p)]
  exact congrArg (fun v => some (nI v, m)) (cn_congr (fun k hk => by rw [bs_bit]; simp [hk]))
theorem has_sets (p : Nat → Bool) {j : Nat} (hj : j < 12) (m : ab_Mm) : dd_X12_has (sets p) (nI j) m = some (if p j then 1 else 0, m) := by
  unfold dd_X12_has
  rw [sets_bit p hj]
  cases p j <;> simp [bb_X12_has_14]
