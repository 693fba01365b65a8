/-! ===== numbers; tables ===== -/
theorem ob_s {α β : Type} (a : α) (f : α → Option β) : (some a).bind f = f a := rfl
theorem li_0 : (0 : Int32) = nI 0 := rfl
theorem li_n (n : Nat) : (OfNat.ofNat n : Int32) = nI n := rfl
theorem li_pos {a : Nat} (h : a < 2 ^ 31) : ¬ nI a < 0 := nI_pos h
theorem li_lt {a b : Nat} (ha : a < 2 ^ 31) (hb : b < 2 ^ 31) : (nI a < nI b) = (a < b) := propext (nI_ltI ha hb)
theorem li_le {a b : Nat} (ha : a < 2 ^ 31) (hb : b < 2 ^ 31) : (nI a ≤ nI b) = (a ≤ b) := propext (nI_leI ha hb)
theorem li_eq {a b : Nat} (ha : a < 2 ^ 31) (hb : b < 2 ^ 31) : (nI a = nI b) = (a = b) := propext (nI_eq ha hb)
theorem li_mac (r C c : Nat) : nI r * nI C + nI c = nI (r * C + c) := by rw [pk_mul, nI_add]
theorem li_cell {r R c C : Nat} (h1 : r < R) (h2 : c < C) : r * C + c < R * C := by
  have h : (r + 1) * C ≤ R * C := Nat.mul_le_mul_right C h1
  rw [Nat.add_mul] at h
  omega
/-- the sum of f over 0 .. n-1 -/
def sm (f : Nat → Int32) : Nat → Int32
  | 0 => 0
  | n + 1 => sm f n + f n
theorem sm_congr {f g : Nat → Int32} : ∀ {n : Nat}, (∀ k, k < n → f k = g k) → sm f n = sm g n
  | 0, _ => rfl
  | n + 1, h => by rw [sm, sm, sm_congr (fun k hk => h k (by omega)), h n (by omega)]
theorem sm_add (f g : Nat → Int32) : ∀ n, sm (fun k => f k + g k) n = sm f n + sm g n
  | 0 => rfl
  | n + 1 => by
    rw [sm, sm, sm, sm_add f g n]
    grind
theorem sm_zero : ∀ n, sm (fun _ => 0) n = 0
  | 0 => rfl
  | n + 1 => by rw [sm, sm_zero n]; rfl
theorem sm_ext {f : Nat → Int32} {a : Nat} : ∀ {n : Nat}, (∀ k, a ≤ k → k < a + n → f k = 0) → sm f (a + n) = sm f a
  | 0, _ => rfl
  | n + 1, h => by
    show sm f (a + n) + f (a + n) = sm f a
    rw [sm_ext (fun k h1 h2 => h k h1 (by omega)), h (a + n) (by omega) (by omega), Int32.add_zero]
theorem sm_swap (f : Nat → Nat → Int32) (a : Nat) : ∀ b, sm (fun i => sm (f i) b) a = sm (fun j => sm (fun i => f i j) a) b
  | 0 => sm_zero a
  | b + 1 => by
    show sm (fun i => sm (f i) b + f i b) a = sm (fun j => sm (fun i => f i j) a) b + sm (fun i => f i b) a
    rw [sm_add, sm_swap f a b]
theorem sm_one {f : Nat → Int32} {j : Nat} : ∀ {n : Nat}, j < n → (∀ k, k < n → k ≠ j → f k = 0) → sm f n = f j
  | 0, h, _ => absurd h (Nat.not_lt_zero j)
  | n + 1, h, hz => by
    rw [sm]
    by_cases e : j = n
    · subst e
      have : sm f j = 0 := by
        rw [sm_congr (g := fun _ => 0) (fun k hk => hz k (by omega) (by omega)), sm_zero]
      rw [this, Int32.zero_add]
    · rw [sm_one (by omega) (fun k hk hn => hz k (by omega) hn), hz n (by omega) (fun q => e q.symm), Int32.add_zero]
theorem sm_upd {f g : Nat → Int32} {j : Nat} : ∀ {n : Nat}, j < n → (∀ k, k < n → k ≠ j → f k = g k) → sm f n = sm g n + (f j - g j)
  | 0, h, _ => absurd h (Nat.not_lt_zero j)
  | n + 1, h, hz => by
    rw [sm, sm]
    by_cases e : j = n
    · subst e
      rw [sm_congr (f := f) (g := g) (fun k hk => hz k (by omega) (by omega))]
      grind
    · rw [sm_upd (by omega) (fun k hk hn => hz k (by omega) hn), hz n (by omega) (fun q => e q.symm)]
      grind
/-! tables -/
def tb (t R C : Nat) : Prop := ok_X10 t ∧ S0[t + 1]? = some (1, R * C, []) ∧ R * C < 100000 ∧ 0 < C
def tI (I : Nat → Nat → Int32) (t R C : Nat) : Prop := I t 0 = nI R ∧ I t 1 = nI C
theorem tb_R {t R C : Nat} (h : tb t R C) : R < 100000 := Nat.lt_of_le_of_lt (Nat.le_mul_of_pos_right R h.2.2.2) h.2.2.1
theorem tb_C {t R C r : Nat} (h : tb t R C) (hr : r < R) : C < 100000 := Nat.lt_of_le_of_lt (Nat.le_mul_of_pos_left C (by omega)) h.2.2.1
section TB
variable {t R C r c : Nat} {I : Nat → Nat → Int32} {J : Nat → Nat → Int64} {x : Nat} {row col : Int32}
theorem tb_get (h : tb t R C) (hI : tI I t R C) (hr : row = nI r) (hc : col = nI c) (h1 : r < R) (h2 : c < C) : dd_X10_get t row col (S0, I, J, x) = some (I (t + 1) (r * C + c), (S0, I, J, x)) := by
  have hC := tb_C h h1
  have hlt := li_cell h1 h2
  have hz := h.2.2.1
  subst hr; subst hc
  unfold dd_X10_get
  simp only [fI_X10_1 h.1, fR_X10_2 h.1, ob_s, hI.2, li_mac]
  rw [if_neg (li_pos (by omega)), if_neg (by rw [li_le (by omega) (by omega)]; omega), if_neg (li_pos (by omega)), op_len h.2.1, ob_s, if_neg (by rw [li_le (by omega) (by omega)]; omega), op_ld h.2.1 rfl hlt (by omega)]
  rfl
theorem tb_set (v : Int32) (h : tb t R C) (hI : tI I t R C) (hr : row = nI r) (hc : col = nI c) (h1 : r < R) (h2 : c < C) : dd_X10_set t row col v (S0, I, J, x) = some ((), (S0, ab_u I (t + 1) (r * C + c) v, J, x)) := by
  have hC := tb_C h h1
  have hlt := li_cell h1 h2
  have hz := h.2.2.1
  subst hr; subst hc
  unfold dd_X10_set
  simp only [fI_X10_1 h.1, fR_X10_2 h.1, ob_s, hI.2, li_mac]
  rw [if_neg (li_pos (by omega)), if_neg (by rw [li_le (by omega) (by omega)]; omega), if_neg (li_pos (by omega)), op_len h.2.1, ob_s, if_neg (by rw [li_le (by omega) (by omega)]; omega), op_st v h.2.1 rfl hlt (by omega)]
  rfl
theorem tb_add (v : Int32) (h : tb t R C) (hI : tI I t R C) (hr : row = nI r) (hc : col = nI c) (h1 : r < R) (h2 : c < C) : dd_X10_add t row col v (S0, I, J, x) = some ((), (S0, ab_u I (t + 1) (r * C + c) (I (t + 1) (r * C + c) + v), J, x)) := by
  unfold dd_X10_add
  simp only [rc_X10 h.1, ob_s, tb_get h hI hr hc h1 h2, tb_set _ h hI hr hc h1 h2]
theorem tb_has (h : ok_X10 t) : dd_X10_has t row (S0, I, J, x) = some (if row < 0 then 0 else if I t 3 ≤ row then 0 else 1, (S0, I, J, x)) := by
  unfold dd_X10_has
  by_cases h1 : row < 0
  · rw [if_pos h1, if_pos h1]; rfl
  · rw [if_neg h1, if_neg h1, fI_X10_3 h, ob_s]
    by_cases h2 : I t 3 ≤ row
    · rw [if_pos h2, if_pos h2]; rfl
    · rw [if_neg h2, if_neg h2]; rfl
theorem tb_isFull (h : ok_X10 t) : dd_X10_isFull t (S0, I, J, x) = some (if I t 3 < I t 0 then 0 else 1, (S0, I, J, x)) := by
  unfold dd_X10_isFull
  rw [fI_X10_3 h, ob_s, fI_X10_0 h, ob_s]
  by_cases h2 : I t 3 < I t 0
  · rw [if_pos h2, if_pos h2]; rfl
  · rw [if_neg h2, if_neg h2]; rfl
theorem tb_totalL (h : tb t R C) (hI : tI I t R C) (hc : col = nI c) (h2 : c < C) : ∀ (n r : Nat) (a : Int32), r ≤ R → R - r < n → a = sm (fun r => I (t + 1) (r * C + c)) r → bb_X10_total_4 n t col a (nI r) (S0, I, J, x) = some (sm (fun r => I (t + 1) (r * C + c)) R, (S0, I, J, x)) := by
  have hR := tb_R h
  intro n
  induction n with
  | zero => intro r a h3 h4; omega
  | succ n ih =>
    intro r a h3 h4 ha
    rw [bb_X10_total_4, fI_X10_0 h.1, ob_s, hI.1]
    by_cases hr : R ≤ r
    · rw [if_pos (by rw [li_le (by omega) (by omega)]; exact hr), ha, show r = R by omega]
    · rw [if_neg (by rw [li_le (by omega) (by omega)]; exact hr), rc_X10 h.1, ob_s, tb_get h hI rfl hc (by omega) h2, ob_s]
      show bb_X10_total_4 n t col _ (nI r + 1) _ = _
      rw [nI_1]
      refine ih (r + 1) _ (by omega) (by omega) ?_
      rw [ha]
      rfl
theorem ab_fu_big {n : Nat} (h : n < 1000000) : n < ab_fu := h
theorem tb_total (h : tb t R C) (hI : tI I t R C) (hc : col = nI c) (h2 : c < C) : dd_X10_total t col (S0, I, J, x) = some (sm (fun r => I (t + 1) (r * C + c)) R, (S0, I, J, x)) := by
  have hR := tb_R h
  exact tb_totalL h hI hc h2 ab_fu 0 0 (Nat.zero_le _) (ab_fu_big (by omega)) rfl
/-! whole rows of an array -/
def ro (I : Nat → Nat → Int32) (r : Nat) (f : Nat → Int32) : Nat → Nat → Int32 := fun a b => if a = r then f b else I a b
theorem ro_at (I : Nat → Nat → Int32) (r : Nat) (f : Nat → Int32) : ro I r f r = f := by funext b; simp [ro]
theorem ro_off (I : Nat → Nat → Int32) {r a : Nat} (f : Nat → Int32) (h : a ≠ r) : ro I r f a = I a := by funext b; simp [ro, h]
theorem ab_u_ro (I : Nat → Nat → Int32) (r k : Nat) (v : Int32) : ab_u I r k v = ro I r (fun b => if b = k then v else I r b) := by
  funext a b
  by_cases h : a = r
  · subst h; simp [ab_u, ro]
  · simp [ab_u, ro, h]
theorem ro_ro (I : Nat → Nat → Int32) (r : Nat) (f g : Nat → Int32) : ro (ro I r f) r g = ro I r g := by
  funext a b
  by_cases h : a = r
  · subst h; simp [ro]
  · simp [ro, h]
theorem fi_fillL {a N : Nat} {v : Int32} (h : S0[a]? = some (1, N, [])) (hN : N < 100000) : ∀ (n k : Nat) (I : Nat → Nat → Int32), k ≤ N → N - k < n → bb_J7_fill_53178_5 n a v (nI k) (nI N) (S0, I, J, x) = some ((), (S0, ro I a (fun b => if k ≤ b ∧ b < N then v else I a b), J, x)) := by
  intro n
  induction n with
  | zero => intro k I h1 h2; omega
  | succ n ih =>
    intro k I h1 h2
    rw [bb_J7_fill_53178_5]
    by_cases hk : N ≤ k
    · rw [if_pos (by rw [li_le (by omega) (by omega)]; exact hk)]
      have e : ro I a (fun b => if k ≤ b ∧ b < N then v else I a b) = I := by
        funext a' b
        by_cases ha : a' = a
        · subst ha
          have hb : ¬ (k ≤ b ∧ b < N) := by omega
          simp [ro, hb]
        · simp [ro, ha]
      rw [e]
    · rw [if_neg (by rw [li_le (by omega) (by omega)]; exact hk), op_st v h rfl (by omega) (by omega), ob_s]
      show bb_J7_fill_53178_5 n a v (nI k + 1) _ _ = _
      rw [nI_1, ih (k + 1) _ (by omega) (by omega)]
      have e : ro (ab_u I a k v) a (fun b => if k + 1 ≤ b ∧ b < N then v else ab_u I a k v a b) = ro I a (fun b => if k ≤ b ∧ b < N then v else I a b) := by
        rw [ab_u_ro, ro_ro, ro_at]
        congr 1
        funext b
        by_cases h3 : b = k
        · subst h3
          have h4 : ¬ (b + 1 ≤ b ∧ b < N) := by omega
          have h5 : b ≤ b ∧ b < N := by omega
          simp [h4, h5]
        · by_cases h4 : k + 1 ≤ b ∧ b < N
          · have h5 : k ≤ b ∧ b < N := by omega
            simp [h4, h5]
          · have h5 : ¬ (k ≤ b ∧ b < N) := by omega
            simp [h4, h5, h3]
      rw [e]
theorem fi_fill {a N : Nat} {v : Int32} (h : S0[a]? = some (1, N, [])) (hN : N < 100000) : dd_J7_fill_53178 a v (S0, I, J, x) = some ((), (S0, ro I a (fun b => if b < N then v else I a b), J, x)) := by
  unfold dd_J7_fill_53178
  rw [op_len h, ob_s]
  show bb_J7_fill_53178_5 ab_fu a v (nI 0) (nI N) _ = _
  rw [fi_fillL h hN ab_fu 0 I (Nat.zero_le _) (ab_fu_big (by omega))]
  simp only [Nat.zero_le, true_and]
theorem tb_clear (h : tb t R C) : dd_X10_clear t (S0, I, J, x) = some ((), (S0, ab_u (ro I (t + 1) (fun b => if b < R * C then 0 else I (t + 1) b)) t 3 0, J, x)) := by
  unfold dd_X10_clear
  rw [fR_X10_2 h.1, ob_s, fi_fill h.2.1 h.2.2.1, ob_s, pI_X10_3 h.1, ob_s]
end TB
