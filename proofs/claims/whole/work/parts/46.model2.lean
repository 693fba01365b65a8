/-! ===== the model's further reads ===== -/
theorem lc_ge {a b : Int64} : (0 ≤ lg_cmp a b) = (b ≤ a) := by
  have h := @lc_lt a b
  rw [← Int32.not_lt, h, Int64.not_lt]
theorem lc_le {a b : Int64} : (lg_cmp a b ≤ 0) = (a ≤ b) := by
  have h := @lc_gt a b
  rw [← Int32.not_lt, h, Int64.not_lt]
theorem j_lt {a b : Int32} : (a.toInt64 < b.toInt64) = (a < b) := by rw [Int64.lt_iff_toInt_lt, Int32.lt_iff_toInt_lt, Int32.toInt_toInt64, Int32.toInt_toInt64]
theorem j_le {a b : Int32} : (a.toInt64 ≤ b.toInt64) = (a ≤ b) := by rw [Int64.le_iff_toInt_le, Int32.le_iff_toInt_le, Int32.toInt_toInt64, Int32.toInt_toInt64]
theorem b1_and (b : Bool) : ((if b then (1 : Int32) else 0) &&& 1) = (if b then 1 else 0) := by cases b <;> decide
theorem b1_ok {ρ : Type} (b : Bool) (a c : ρ) : (if ¬ (((if b then (1 : Int32) else 0) &&& 1) = (if b then 1 else 0)) then a else c) = c := by rw [b1_and]; simp
/-- the first number that p takes -/
def fd (p : Nat → Bool) (j : Nat) : Nat → Option Nat
  | 0 => none
  | k + 1 => if p j then some j else fd p (j + 1) k
theorem fd_some {p : Nat → Bool} : ∀ {k j r : Nat}, fd p j k = some r → j ≤ r ∧ r < j + k ∧ p r = true ∧ ∀ i, j ≤ i → i < r → p i = false
  | 0, _, _, h => by cases h
  | k + 1, j, r, h => by
    rw [fd] at h
    by_cases hp : p j = true
    · rw [if_pos hp] at h
      cases h
      exact ⟨Nat.le_refl _, by omega, hp, fun i h1 h2 => by omega⟩
    · rw [if_neg hp] at h
      have ⟨h1, h2, h3, h4⟩ := fd_some h
      refine ⟨by omega, by omega, h3, fun i h5 h6 => ?_⟩
      by_cases e : i = j
      · rw [e]; simpa using hp
      · exact h4 i (by omega) h6
theorem fd_none {p : Nat → Bool} : ∀ {k j : Nat}, fd p j k = none → ∀ i, j ≤ i → i < j + k → p i = false
  | 0, _, _, _, _, _ => by omega
  | k + 1, j, h, i, h1, h2 => by
    rw [fd] at h
    by_cases hp : p j = true
    · rw [if_pos hp] at h; cases h
    · rw [if_neg hp] at h
      by_cases e : i = j
      · rw [e]; simpa using hp
      · exact fd_none h i (by omega) (by omega)
theorem fd_is {p : Nat → Bool} : ∀ {k j r : Nat}, j ≤ r → r < j + k → p r = true → (∀ i, j ≤ i → i < r → p i = false) → fd p j k = some r
  | 0, _, _, h1, h2, _, _ => by omega
  | k + 1, j, r, h1, h2, h3, h4 => by
    rw [fd]
    by_cases e : j = r
    · rw [e, if_pos h3]
    · rw [if_neg (by rw [h4 j (by omega) (by omega)]; decide)]
      exact fd_is (by omega) (by omega) h3 (fun i h5 h6 => h4 i (by omega) h6)
theorem fd_no {p : Nat → Bool} : ∀ {k j : Nat}, (∀ i, j ≤ i → i < j + k → p i = false) → fd p j k = none
  | 0, _, _ => rfl
  | k + 1, j, h => by
    rw [fd, if_neg (by rw [h j (by omega) (by omega)]; decide)]
    exact fd_no (fun i h1 h2 => h i (by omega) (by omega))
theorem fd_congr {p q : Nat → Bool} {k j : Nat} (h : ∀ i, j ≤ i → i < j + k → p i = q i) : fd p j k = fd q j k := by
  cases e : fd q j k with
  | none => exact fd_no (fun i h1 h2 => (h i h1 h2).trans (fd_none e i h1 h2))
  | some r =>
    have ⟨h1, h2, h3, h4⟩ := fd_some e
    exact fd_is h1 h2 ((h r h1 h2).trans h3) (fun i h5 h6 => (h i h5 (by omega)).trans (h4 i h5 h6))
theorem lp_fdL {ρ : Type} (B : Nat → Int32 → Option ρ) (N : Nat) (p : Nat → Bool) (hit : Nat → Option ρ) (miss : Option ρ) (hs : ∀ n j, j < N → B (n + 1) (nI j) = if p j then hit j else B n (nI j + 1)) (he : ∀ n, B (n + 1) (nI N) = miss) :
    ∀ (k n j : Nat), j + k = N → k < n → B n (nI j) = (match fd p j k with | some r => hit r | none => miss) := by
  intro k
  induction k with
  | zero =>
    intro n j h1 h2
    obtain ⟨n, rfl⟩ : ∃ q, n = q + 1 := ⟨n - 1, by omega⟩
    rw [show j = N by omega, he]
    rfl
  | succ k ih =>
    intro n j h1 h2
    obtain ⟨n, rfl⟩ : ∃ q, n = q + 1 := ⟨n - 1, by omega⟩
    rw [hs n j (by omega), fd]
    by_cases hp : p j = true
    · rw [if_pos hp, if_pos hp]
    · rw [if_neg hp, if_neg hp, nI_1, ih n (j + 1) (by omega) (by omega)]
theorem lp_fd {ρ : Type} (B : Nat → Int32 → Option ρ) (N : Nat) (hN : N < 900000) (p : Nat → Bool) (hit : Nat → Option ρ) (miss : Option ρ) (hs : ∀ n j, j < N → B (n + 1) (nI j) = if p j then hit j else B n (nI j + 1)) (he : ∀ n, B (n + 1) (nI N) = miss) : B ab_fu 0 = (match fd p 0 N with | some r => hit r | none => miss) :=
  lp_fdL B N p hit miss hs he N ab_fu 0 (by omega) (ab_fu_big (by omega))
/-- how many of 0 .. n-1 p takes -/
def cn (p : Nat → Bool) : Nat → Nat
  | 0 => 0
  | n + 1 => cn p n + (if p n then 1 else 0)
theorem cn_le (p : Nat → Bool) : ∀ n, cn p n ≤ n
  | 0 => Nat.le_refl 0
  | n + 1 => by
    have := cn_le p n
    rw [cn]
    split <;> omega
theorem cn_sm (p : Nat → Bool) : ∀ n, sm (fun k => if p k then 1 else 0) n = nI (cn p n)
  | 0 => rfl
  | n + 1 => by
    rw [sm, cn_sm p n, cn]
    cases p n
    · simp
    · simp [nI_1]
theorem cn_congr {p q : Nat → Bool} : ∀ {n : Nat}, (∀ k, k < n → p k = q k) → cn p n = cn q n
  | 0, _ => rfl
  | n + 1, h => by rw [cn, cn, cn_congr (fun k hk => h k (by omega)), h n (by omega)]
/-- a number that is one of n -/
def inN (a : Int32) (n : Nat) : Bool := decide (0 ≤ a.toInt ∧ a.toInt < (n : Int))
theorem inN_ex {a : Int32} {n : Nat} (h : inN a n = true) (hn : n < 2 ^ 31) : ∃ j, j < n ∧ a = nI j := by
  have h' : 0 ≤ a.toInt ∧ a.toInt < (n : Int) := by simpa [inN] using h
  refine ⟨a.toInt.toNat, by omega, Int32.toInt_inj.mp ?_⟩
  rw [nI_toInt (by omega)]
  omega
theorem inN_n {j n : Nat} (hj : j < 2 ^ 31) : inN (nI j) n = decide (j < n) := by
  unfold inN
  rw [nI_toInt hj]
  simp
section ME
variable {I : Nat → Nat → Int32} {J : Nat → Nat → Int64} {x : Nat}
def wi (a lo hi : Int64) : Bool := !decide (a < lo) && !decide (hi < a)
theorem m_within (a lo hi : Int64) (m : ab_Mm) : dd_X12_within a lo hi m = some (if wi a lo hi then 1 else 0, m) := by
  unfold dd_X12_within wi
  simp only [lc_lt, lc_gt]
  by_cases h1 : a < lo
  · simp [h1, bb_X12_within_17, bb_X12_within_18]
  · by_cases h2 : hi < a
    · simp [h1, h2, bb_X12_within_17, bb_X12_within_18]
    · simp [h1, h2, bb_X12_within_18]
/-- the memory with the mark of a throw -/
abbrev th (I : Nat → Nat → Int32) (k : Int32) : Nat → Nat → Int32 := ab_u I 200 0 k
theorem th_th (k l : Int32) : th (th I k) l = th I l := by
  funext a b
  unfold th ab_u
  by_cases h : a = 200 ∧ b = 0 <;> simp [h]
theorem th_at (k : Int32) : th I k 200 0 = k := by simp [th, ab_u]
theorem th_id {k : Int32} (h : I 200 0 = k) : th I k = I := by
  funext a b
  unfold th ab_u
  by_cases h2 : a = 200 ∧ b = 0
  · rw [if_pos h2, h2.1, h2.2, h]
  · rw [if_neg h2]
theorem th_off {r : Nat} (k : Int32) (h : r ≠ 200) : th I k r = I r := by
  funext b
  simp [th, ab_u, h]
theorem th_offk {j : Nat} (k : Int32) (h : j ≠ 0) : th I k 200 j = I 200 j := by simp [th, ab_u, h]
theorem m_thr (b : Bool) (k : Int32) (hk : 0 < k) (h0 : I 200 0 = 0) : dd_X12_throwsIf 200 (if b then 1 else 0) k (S0, I, J, x) = some (if b then 1 else 0, (S0, th I (if b then k else 0), J, x)) := by
  unfold dd_X12_throwsIf
  simp only [m_F0, ob_s, h0, if_true]
  cases b with
  | false =>
    simp only [Bool.false_eq_true, if_false, if_true, bb_X12_throwsIf_16, m_F0, ob_s, h0]
    rw [th_id h0]
    rfl
  | true =>
    simp only [if_true]
    rw [if_neg (by decide), pI_X12_0 okM, ob_s, bb_X12_throwsIf_16, m_F0, ob_s]
    have e : ab_u I 200 0 k 200 0 = k := th_at k
    rw [e, if_neg (Int32.not_le.mpr hk)]
    rfl
theorem m_no (a : Int32) {n : Nat} (hn : n < 1000) : dd_X12_no 200 a.toInt64 (nI n) (S0, I, J, x) = some (if inN a n then 0 else 1, (S0, th I (if inN a n then 0 else 1), J, x)) := by
  unfold dd_X12_no
  have e : wi a.toInt64 0 ((nI n - 1).toInt64) = inN a n := by
    have e1 : (nI n - 1).toInt = (n : Int) - 1 := pk_sub_toInt (b := 1) (by omega) (by omega)
    unfold wi inN
    have q1 : (a.toInt64 < 0) = (a.toInt < 0) := by rw [Int64.lt_iff_toInt_lt, Int32.toInt_toInt64]; rfl
    have q2 : ((nI n - 1).toInt64 < a.toInt64) = ((n : Int) - 1 < a.toInt) := by rw [j_lt, Int32.lt_iff_toInt_lt, e1]
    simp only [q1, q2]
    by_cases h1 : a.toInt < 0 <;> by_cases h2 : (n : Int) - 1 < a.toInt <;> simp [h1, h2] <;> omega
  rw [pI_X12_0 okM, ob_s, m_within, ob_s, e]
  have q := @m_thr (th I 0) J x (!(inN a n)) 1 (by decide) (th_at 0)
  simp only [bo_if, bb_X12_no_23, m_rc, ob_s]
  cases h : inN a n with
  | false =>
    rw [h] at q
    simp only [Bool.not_false, if_true] at q
    simp only [if_true, q, ob_s, th_th]
    simp
  | true =>
    rw [h] at q
    simp only [Bool.not_true, Bool.false_eq_true, if_false] at q
    simp only [Bool.true_eq_false, if_false, q, ob_s, th_th]
    simp
theorem m_noB (a : Int32) {n : Nat} (hn : n < 1000) : dd_X12_no 200 a.toInt64 (nI n) (S0, I, J, x) = some (if !(inN a n) then 1 else 0, (S0, th I (if inN a n then 0 else 1), J, x)) := by
  rw [m_no a hn]
  cases inN a n <;> rfl
theorem m_noHost {NH NY NE NR : Nat} (hc : mc I NH NY NE NR) (a : Int32) : dd_X12_noHost 200 a (S0, I, J, x) = some (if !(inN a NH) then 1 else 0, (S0, th I (if inN a NH then 0 else 1), J, x)) := by
  unfold dd_X12_noHost
  have h8 := hc.2.1
  simp only [ob_s, m_rc, m_R1, m_R2, m_R3, m_R4, m_R5, m_R6, m_R7, m_R8, m_R9, m_F0, m_to0, hc.1.1, m_noB a (show NH < 1000 by omega), b1_ok]
theorem m_noType {NH NY NE NR : Nat} (hc : mc I NH NY NE NR) (a : Int32) : dd_X12_noType 200 a (S0, I, J, x) = some (if !(inN a NY) then 1 else 0, (S0, th I (if inN a NY then 0 else 1), J, x)) := by
  unfold dd_X12_noType
  have h8 := hc.2.2.1
  simp only [ob_s, m_rc, m_R1, m_R2, m_R3, m_R4, m_R5, m_R6, m_R7, m_R8, m_R9, m_F0, m_to1, hc.1.2.1, m_noB a (show NY < 1000 by omega), b1_ok]
theorem m_noTenant {NH NY NE NR : Nat} (hc : mc I NH NY NE NR) (a : Int32) : dd_X12_noTenant 200 a (S0, I, J, x) = some (if !(inN a NE) then 1 else 0, (S0, th I (if inN a NE then 0 else 1), J, x)) := by
  unfold dd_X12_noTenant
  have h8 := hc.2.2.2.1
  simp only [ob_s, m_rc, m_R1, m_R2, m_R3, m_R4, m_R5, m_R6, m_R7, m_R8, m_R9, m_F0, m_to2, hc.1.2.2.1, m_noB a (show NE < 1000 by omega), b1_ok]
theorem m_noSlot (a : Int32) : dd_X12_noSlot 200 a (S0, I, J, x) = some (if !(inN a 2) then 1 else 0, (S0, th I (if inN a 2 then 0 else 1), J, x)) := by
  unfold dd_X12_noSlot
  simp only [ob_s, m_rc, m_R1, m_R2, m_R3, m_R4, m_R5, m_R6, m_R7, m_R8, m_R9, m_F0, li_n 2, m_noB a (show 2 < 1000 by omega), b1_ok]
/-- a running instance's number -/
def inR (f : Nat → Int64) (a : Int32) : Bool := inN a 12 && rn f a.toNatClampNeg
theorem m_noInstance (a : Int32) : dd_X12_noInstance 200 a (S0, I, J, x) = some (if !(inR (J 201) a) then 1 else 0, (S0, th I (if inR (J 201) a then 0 else 1), J, x)) := by
  unfold dd_X12_noInstance inR
  simp only [ob_s, m_rc, m_R1, m_R2, m_R3, m_R4, m_R5, m_R6, m_R7, m_R8, m_R9, m_F0, li_n 12, m_noB a (show 12 < 1000 by omega), bo_if]
  cases h : inN a 12 with
  | false => simp [bb_X12_noInstance_32, bb_X12_noInstance_37]
  | true =>
    obtain ⟨j, hj, rfl⟩ := inN_ex h (by omega)
    simp only [Bool.not_true, if_true, ob_s, m_rc, m_R1, m_R2, m_R3, m_R4, m_R5, m_R6, m_R7, m_R8, m_R9, m_F0, m_runs hj, nI_clamp (show j < 2 ^ 31 by omega), bo_if, bb_X12_noInstance_25]
    have q := @m_thr (th I 0) J x (!(rn (J 201) j)) 1 (by decide) (th_at 0)
    cases hr : rn (J 201) j with
    | false =>
      rw [hr] at q
      simp only [Bool.not_false, if_true] at q
      simp only [if_true, q, ob_s, th_th]
      simp [bb_X12_noInstance_32, bb_X12_noInstance_37]
    | true =>
      rw [hr] at q
      simp only [Bool.not_true, Bool.false_eq_true, if_false] at q
      simp only [Bool.true_eq_false, if_false, q, ob_s, th_th]
      simp [bb_X12_noInstance_37]
end ME
