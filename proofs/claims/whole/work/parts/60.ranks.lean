/-! ===== ranks when a request goes or comes ===== -/
/-- the numbers without r -/
def sk (r o : Nat) : Nat := if o < r then o else o + 1
theorem sk_ne (r o : Nat) : sk r o ≠ r := by
  unfold sk
  split <;> omega
theorem sk_lt {r o n : Nat} (hr : r < n) (ho : o < n - 1) : sk r o < n := by
  unfold sk
  split <;> omega
theorem sk_mono {r o k : Nat} : (sk r k < sk r o) = (k < o) := by
  unfold sk
  refine propext ⟨fun h => ?_, fun h => ?_⟩ <;> split at * <;> split at * <;> omega
theorem cn_skip (p : Nat → Bool) {r : Nat} : ∀ {n : Nat}, r ≤ n → cn p (n + 1) = cn (fun k => p (sk r k)) n + (if p r then 1 else 0)
  | 0, h => by
    have : r = 0 := by omega
    subst this
    rfl
  | n + 1, h => by
    by_cases e : r = n + 1
    · subst e
      rw [cn, cn_congr (q := fun k => p (sk (n + 1) k)) (fun k hk => by unfold sk; rw [if_pos hk])]
    · have ih := cn_skip p (r := r) (n := n) (by omega)
      rw [cn, ih, cn]
      have e2 : sk r n = n + 1 := by unfold sk; rw [if_neg (by omega)]
      rw [e2]
      omega
theorem rk_drop (b : Nat → Int32) {n r o : Nat} (hr : r < n) (ho : o < n - 1) : rk b n (sk r o) = rk (fun k => b (sk r k)) (n - 1) o + (if rk b n r < rk b n (sk r o) then 1 else 0) := by
  have hn : n = (n - 1) + 1 := by omega
  have h1 : rk b n (sk r o) = cn (fun k => bfr b (sk r o) (sk r k)) (n - 1) + (if bfr b (sk r o) r then 1 else 0) := by
    unfold rk
    rw [hn]
    simp only [Nat.add_sub_cancel]
    exact cn_skip (bfr b (sk r o)) (by omega)
  have h2 : cn (fun k => bfr b (sk r o) (sk r k)) (n - 1) = rk (fun k => b (sk r k)) (n - 1) o := by
    unfold rk
    refine cn_congr (fun k hk => ?_)
    unfold bfr
    simp only [sk_mono]
  have h3 : (bfr b (sk r o) r = true) = (rk b n r < rk b n (sk r o)) := by
    refine propext ⟨fun h => rk_mono b hr h, fun h => ?_⟩
    rcases bfr_tot b (sk_ne r o) with q | q
    · exact q
    · have := rk_mono b (sk_lt hr ho) q
      omega
  rw [h2] at h1
  by_cases q : rk b n r < rk b n (sk r o)
  · rw [if_pos q, h1, if_pos (h3 ▸ q)]
  · rw [if_neg q, h1, if_neg (h3 ▸ q)]
theorem rk_new (b : Nat → Int32) {n o : Nat} (ho : o < n) : rk b (n + 1) o = rk b n o + (if b o < b n then 1 else 0) := by
  unfold rk
  rw [cn]
  have e : (bfr b o n = true) = (b o < b n) := by
    unfold bfr
    rw [decide_eq_true_eq]
    exact propext ⟨fun h => h.elim id (fun q => by omega), Or.inl⟩
  simp only [e]
theorem rk_newN (b : Nat → Int32) (n : Nat) : rk b (n + 1) n = cn (fun k => !decide (b k < b n)) n := by
  unfold rk
  rw [cn]
  have e : bfr b n n = false := by
    cases hb : bfr b n n with
    | false => rfl
    | true => have := bfr_iff.mp hb; omega
  rw [e]
  simp only [Bool.false_eq_true, if_false, Nat.add_zero]
  refine cn_congr (fun k hk => ?_)
  have h := @bfr_iff b n k
  have h2 : (b k < b n) = ((b k).toInt < (b n).toInt) := by rw [Int32.lt_iff_toInt_lt]
  by_cases q : bfr b n k = true
  · rw [q]
    have := h.mp q
    simp only [h2]
    simp; omega
  · have q' : bfr b n k = false := by simpa using q
    rw [q']
    simp only [h2]
    have : ¬ ((b n).toInt < (b k).toInt ∨ ((b k).toInt = (b n).toInt ∧ k < n)) := fun w => q (h.mpr w)
    simp; omega
/-- who has a bid as high stands before the place of a new one -/
theorem rk_place (b : Nat → Int32) {n k : Nat} (hk : k < n) : (rk b n k < cn (fun j => !decide (b j < b n)) n) = ¬ (b k < b n) := by
  have h2 : ∀ j, (b j < b n) = ((b j).toInt < (b n).toInt) := fun j => by rw [Int32.lt_iff_toInt_lt]
  refine propext ⟨fun h w => ?_, fun w => ?_⟩
  · have : cn (fun j => !decide (b j < b n)) n ≤ rk b n k := by
      unfold rk
      refine cn_le2 (fun j hj hp => bfr_iff.mpr ?_)
      rw [h2] at w
      simp only [h2] at hp
      simp at hp
      omega
    omega
  · unfold rk
    refine cn_lt2 (j := k) (fun j hj hp => ?_) hk (by simp [w]) ?_
    · have := bfr_iff.mp hp
      rw [h2] at w
      simp only [h2]
      simp; omega
    · cases hb : bfr b k k with
      | false => rfl
      | true => have := bfr_iff.mp hb; omega
