/-! ===== loops; what a situation's questions answer ===== -/
def itr {α : Type} (f : Nat → α → α) (j : Nat) : Nat → α → α
  | 0, a => a
  | k + 1, a => itr f (j + 1) k (f j a)
theorem itr_congr {α : Type} {f g : Nat → α → α} : ∀ (k j : Nat) (a : α), (∀ i b, j ≤ i → i < j + k → f i b = g i b) → itr f j k a = itr g j k a
  | 0, _, _, _ => rfl
  | k + 1, j, a, h => by
    rw [itr, itr, h j a (by omega) (by omega)]
    exact itr_congr k (j + 1) _ (fun i b h1 h2 => h i b (by omega) (by omega))
theorem itr_last {α : Type} (f : Nat → α → α) : ∀ (k j : Nat) (a : α), itr f j (k + 1) a = f (j + k) (itr f j k a)
  | 0, j, a => rfl
  | k + 1, j, a => by
    rw [itr, itr_last f k (j + 1) (f j a)]
    show _ = f (j + (k + 1)) (itr f (j + 1) k (f j a))
    rw [show j + 1 + k = j + (k + 1) by omega]
theorem itr_sum (g : Nat → Int32) : ∀ (n : Nat) (a : Int32), itr (fun j b => b + g j) 0 n a = a + sm g n
  | 0, a => (Int32.add_zero a).symm
  | n + 1, a => by
    rw [itr_last, itr_sum g n a, Nat.zero_add, sm, Int32.add_assoc]
theorem itr_inv {α : Type} {f : Nat → α → α} (P : Nat → α → Prop) : ∀ (k j : Nat) (a : α), P j a → (∀ i b, j ≤ i → i < j + k → P i b → P (i + 1) (f i b)) → P (j + k) (itr f j k a)
  | 0, j, a, h, _ => h
  | k + 1, j, a, h, hs => by
    rw [itr, show j + (k + 1) = (j + 1) + k by omega]
    exact itr_inv P k (j + 1) _ (hs j a (by omega) (by omega) h) (fun i b h1 h2 h3 => hs i b (by omega) (by omega) h3)
/-- a loop with a counter up to N, whose state is a -/
theorem lp_up {α ρ : Type} (B : Nat → Int32 → α → Option ρ) (N : Nat) (f : Nat → α → α) (fin : α → Option ρ) (hs : ∀ n j a, j < N → B (n + 1) (nI j) a = B n (nI j + 1) (f j a)) (he : ∀ n a, B (n + 1) (nI N) a = fin a) :
    ∀ (k n j : Nat) (a : α), j + k = N → k < n → B n (nI j) a = fin (itr f j k a) := by
  intro k
  induction k with
  | zero =>
    intro n j a h1 h2
    obtain ⟨n, rfl⟩ : ∃ q, n = q + 1 := ⟨n - 1, by omega⟩
    rw [show j = N by omega, he]
    rfl
  | succ k ih =>
    intro n j a h1 h2
    obtain ⟨n, rfl⟩ : ∃ q, n = q + 1 := ⟨n - 1, by omega⟩
    rw [hs n j a (by omega), nI_1, ih n (j + 1) _ (by omega) (by omega)]
    rfl
theorem lp_up0 {α ρ : Type} (B : Nat → Int32 → α → Option ρ) (N : Nat) (hN : N < 900000) (f : Nat → α → α) (fin : α → Option ρ) (hs : ∀ n j a, j < N → B (n + 1) (nI j) a = B n (nI j + 1) (f j a)) (he : ∀ n a, B (n + 1) (nI N) a = fin a) (a : α) : B ab_fu 0 a = fin (itr f 0 N a) :=
  lp_up B N f fin hs he N ab_fu 0 a (by omega) (ab_fu_big (by omega))
/-- the same with what holds on the way -/
theorem lp_upI {α ρ : Type} (P : Nat → α → Prop) (B : Nat → Int32 → α → Option ρ) (N : Nat) (f : Nat → α → α) (fin : α → Option ρ) (hs : ∀ n j a, j < N → P j a → B (n + 1) (nI j) a = B n (nI j + 1) (f j a)) (hp : ∀ j a, j < N → P j a → P (j + 1) (f j a)) (he : ∀ n a, P N a → B (n + 1) (nI N) a = fin a) :
    ∀ (k n j : Nat) (a : α), j + k = N → k < n → P j a → B n (nI j) a = fin (itr f j k a) := by
  intro k
  induction k with
  | zero =>
    intro n j a h1 h2 h3
    obtain ⟨n, rfl⟩ : ∃ q, n = q + 1 := ⟨n - 1, by omega⟩
    rw [show j = N by omega] at h3 ⊢
    rw [he n a h3]
    rfl
  | succ k ih =>
    intro n j a h1 h2 h3
    obtain ⟨n, rfl⟩ : ∃ q, n = q + 1 := ⟨n - 1, by omega⟩
    rw [hs n j a (by omega) h3, nI_1, ih n (j + 1) _ (by omega) (by omega) (hp j a (by omega) h3)]
    rfl
theorem lp_upI0 {α ρ : Type} (P : Nat → α → Prop) (B : Nat → Int32 → α → Option ρ) (N : Nat) (hN : N < 900000) (f : Nat → α → α) (fin : α → Option ρ) (hs : ∀ n j a, j < N → P j a → B (n + 1) (nI j) a = B n (nI j + 1) (f j a)) (hp : ∀ j a, j < N → P j a → P (j + 1) (f j a)) (he : ∀ n a, P N a → B (n + 1) (nI N) a = fin a) (a : α) (h0 : P 0 a) : B ab_fu 0 a = fin (itr f 0 N a) :=
  lp_upI P B N f fin hs hp he N ab_fu 0 a (by omega) (ab_fu_big (by omega)) h0
/-! the world's parts -/
def siT (s : Nat) : Prop := ok_X8 s ∧ tb (s + 1) 12 6 ∧ tb (s + 3) 10 3 ∧ tb (s + 5) 6 1 ∧ tb (s + 7) 8 2 ∧ S0[s + 9]? = some (4, 6, [])
def siI (I : Nat → Nat → Int32) (s : Nat) : Prop := tI I (s + 1) 12 6 ∧ tI I (s + 3) 10 3 ∧ tI I (s + 5) 6 1 ∧ tI I (s + 7) 8 2
def clT (c : Nat) : Prop := ok_X1 c ∧ tb (c + 1) 8 2 ∧ tb (c + 3) 6 3 ∧ tb (c + 5) 6 1 ∧ tb (c + 7) 8 6 ∧ tb (c + 9) 1 3 ∧ ok_X9 (c + 11) ∧ S0[c + 12]? = some (1, 800, []) ∧ S0[c + 13]? = some (1, 16, [])
def clI (I : Nat → Nat → Int32) (c : Nat) : Prop := tI I (c + 1) 8 2 ∧ tI I (c + 3) 6 3 ∧ tI I (c + 5) 6 1 ∧ tI I (c + 7) 8 6 ∧ tI I (c + 9) 1 3
/-- cells: of an instance, a request, a price, a load; of a host, a type, a budget, a reservation, a setting -/
abbrev gi (I : Nat → Nat → Int32) (s j f : Nat) : Int32 := I (s + 1 + 1) (j * 6 + f)
abbrev gq (I : Nat → Nat → Int32) (s p f : Nat) : Int32 := I (s + 3 + 1) (p * 3 + f)
abbrev gp (I : Nat → Nat → Int32) (s y : Nat) : Int32 := I (s + 5 + 1) (y * 1 + 0)
abbrev gl (I : Nat → Nat → Int32) (s h f : Nat) : Int32 := I (s + 7 + 1) (h * 2 + f)
abbrev gh (I : Nat → Nat → Int32) (c h f : Nat) : Int32 := I (c + 1 + 1) (h * 2 + f)
abbrev gt (I : Nat → Nat → Int32) (c y f : Nat) : Int32 := I (c + 3 + 1) (y * 3 + f)
abbrev ge (I : Nat → Nat → Int32) (c e : Nat) : Int32 := I (c + 5 + 1) (e * 1 + 0)
abbrev gr (I : Nat → Nat → Int32) (c k f : Nat) : Int32 := I (c + 7 + 1) (k * 6 + f)
abbrev gg (I : Nat → Nat → Int32) (c f : Nat) : Int32 := I (c + 9 + 1) (0 * 3 + f)
/-- instance j runs -/
def ru (I : Nat → Nat → Int32) (s j : Nat) : Bool := !decide ((((I s 1) >>> (nI j &&& 31)) &&& 1) = 0)
section SI
variable {s c : Nat} {I : Nat → Nat → Int32} {J : Nat → Nat → Int64} {x : Nat}
theorem si_runs (h : siT s) {i : Int32} : dd_X8_runs s i (S0, I, J, x) = some (if i < 0 then 0 else if 12 ≤ i then 0 else if ((I s 1 >>> (i &&& 31)) &&& 1) = 0 then 0 else 1, (S0, I, J, x)) := by
  unfold dd_X8_runs
  by_cases h1 : i < 0
  · rw [if_pos h1, if_pos h1]; rfl
  · rw [if_neg h1, if_neg h1]
    by_cases h2 : (12 : Int32) ≤ i
    · rw [if_pos h2, if_pos h2]; rfl
    · rw [if_neg h2, if_neg h2, fI_X8_1 h.1, ob_s]
      by_cases h3 : ((I s 1 >>> (i &&& 31)) &&& 1) = 0
      · rw [if_pos h3, if_pos h3]; rfl
      · rw [if_neg h3, if_neg h3]; rfl
theorem si_runsN (h : siT s) {j : Nat} (hj : j < 12) : dd_X8_runs s (nI j) (S0, I, J, x) = some (if ru I s j then 1 else 0, (S0, I, J, x)) := by
  rw [si_runs h, if_neg (li_pos (by omega)), if_neg (by rw [li_n 12, li_le (by omega) (by omega)]; omega)]
  unfold ru
  by_cases h3 : ((I s 1 >>> (nI j &&& 31)) &&& 1) = 0 <;> simp [h3]
theorem si_get (h : siT s) (hI : siI I s) {j f : Nat} {a b : Int32} (ha : a = nI j) (hb : b = nI f) (hj : j < 12) (hf : f < 6) : dd_X10_get (s + 1) a b (S0, I, J, x) = some (gi I s j f, (S0, I, J, x)) := tb_get h.2.1 hI.1 ha hb hj hf
theorem si_getq (h : siT s) (hI : siI I s) {j f : Nat} {a b : Int32} (ha : a = nI j) (hb : b = nI f) (hj : j < 10) (hf : f < 3) : dd_X10_get (s + 3) a b (S0, I, J, x) = some (gq I s j f, (S0, I, J, x)) := tb_get h.2.2.1 hI.2.1 ha hb hj hf
theorem si_getp (h : siT s) (hI : siI I s) {j : Nat} {a b : Int32} (ha : a = nI j) (hb : b = 0) (hj : j < 6) : dd_X10_get (s + 5) a b (S0, I, J, x) = some (gp I s j, (S0, I, J, x)) := tb_get h.2.2.2.1 hI.2.2.1 ha (hb.trans li_0) hj (by omega)
theorem si_getl (h : siT s) (hI : siI I s) {j f : Nat} {a b : Int32} (ha : a = nI j) (hb : b = nI f) (hj : j < 8) (hf : f < 2) : dd_X10_get (s + 7) a b (S0, I, J, x) = some (gl I s j f, (S0, I, J, x)) := tb_get h.2.2.2.2.1 hI.2.2.2 ha hb hj hf
theorem cl_geth (h : clT c) (hI : clI I c) {j f : Nat} {a b : Int32} (ha : a = nI j) (hb : b = nI f) (hj : j < 8) (hf : f < 2) : dd_X10_get (c + 1) a b (S0, I, J, x) = some (gh I c j f, (S0, I, J, x)) := tb_get h.2.1 hI.1 ha hb hj hf
theorem cl_gett (h : clT c) (hI : clI I c) {j f : Nat} {a b : Int32} (ha : a = nI j) (hb : b = nI f) (hj : j < 6) (hf : f < 3) : dd_X10_get (c + 3) a b (S0, I, J, x) = some (gt I c j f, (S0, I, J, x)) := tb_get h.2.2.1 hI.2.1 ha hb hj hf
theorem cl_gete (h : clT c) (hI : clI I c) {j : Nat} {a b : Int32} (ha : a = nI j) (hb : b = 0) (hj : j < 6) : dd_X10_get (c + 5) a b (S0, I, J, x) = some (ge I c j, (S0, I, J, x)) := tb_get h.2.2.2.1 hI.2.2.1 ha (hb.trans li_0) hj (by omega)
theorem cl_getr (h : clT c) (hI : clI I c) {j f : Nat} {a b : Int32} (ha : a = nI j) (hb : b = nI f) (hj : j < 8) (hf : f < 6) : dd_X10_get (c + 7) a b (S0, I, J, x) = some (gr I c j f, (S0, I, J, x)) := tb_get h.2.2.2.2.1 hI.2.2.2.1 ha hb hj hf
theorem cl_getg (h : clT c) (hI : clI I c) {f : Nat} {a b : Int32} (ha : a = 0) (hb : b = nI f) (hf : f < 3) : dd_X10_get (c + 9) a b (S0, I, J, x) = some (gg I c f, (S0, I, J, x)) := tb_get h.2.2.2.2.2.1 hI.2.2.2.2 (ha.trans li_0) hb (by omega) hf
/-- the instances on a host, as a set -/
def onS (I : Nat → Nat → Int32) (s : Nat) (h : Int32) : Int32 := itr (fun j a => if ru I s j = true ∧ gi I s j 3 = h then a ||| ((1 : Int32) <<< (nI j &&& 31)) else a) 0 12 0
theorem li_12 {j : Nat} (h : j < 12) : ¬ (12 : Int32) ≤ nI j := by rw [li_n 12, li_le (by omega) (by omega)]; omega
theorem li_12e : (12 : Int32) ≤ nI 12 := by decide
theorem ru_if (b : Bool) : (if b then (1 : Int32) else 0) = 0 ↔ b = false := by cases b <;> decide
theorem si_setOn (h : siT s) (hI : siI I s) (o : Int32) : dd_X8_setOn s o (S0, I, J, x) = some (onS I s o, (S0, I, J, x)) := by
  unfold dd_X8_setOn onS
  refine lp_up0 (fun n k a => bb_X8_setOn_4 n s o a k (S0, I, J, x)) 12 (by decide) _ (fun a => some (a, (S0, I, J, x))) (fun n j a hj => ?_) (fun n a => ?_) 0
  · rw [bb_X8_setOn_4, if_neg (li_12 hj), rc_X8 h.1, ob_s, si_runsN h hj, ob_s]
    cases hr : ru I s j with
    | false => simp [bb_X8_setOn_37]
    | true =>
      simp only [if_true]
      rw [if_neg (by decide), fR_X8_2 h.1, ob_s, rc_X10 h.2.1.1, ob_s, si_get h hI rfl (li_n 3) hj (by omega), ob_s]
      by_cases h2 : gi I s j 3 = o
      · simp [h2, bb_X8_setOn_37]
      · simp [h2, bb_X8_setOn_37]
  · rw [bb_X8_setOn_4, if_pos li_12e]
end SI
