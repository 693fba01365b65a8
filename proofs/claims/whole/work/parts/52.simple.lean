/-! ===== a quotient of small numbers is no NaN; ranks; simple answers ===== -/
def dvC (k : Nat) : Bool := match FP.Core.decode FP.Core.b64 (FP.i2d (nI k)).toNat with
  | .fin false c _ => decide (c ≠ 0 ∨ k = 0)
  | _ => false
theorem dv_all : ∀ b, b < 28 → ∀ a, a < 28 → dvC (28 * b + a) = true := by decide +kernel
theorem dv_ex {k : Nat} (h : k < 784) : ∃ c q, FP.Core.decode FP.Core.b64 (FP.i2d (nI k)).toNat = .fin false c q ∧ (c ≠ 0 ∨ k = 0) := by
  have e := dv_all (k / 28) (by omega) (k % 28) (by omega)
  rw [show 28 * (k / 28) + k % 28 = k by omega] at e
  unfold dvC at e
  split at e
  · rename_i c q hq
    exact ⟨c, q, hq, by simpa using e⟩
  · cases e
theorem dv_b (E c T : Nat) (h2 : E ≤ 2046) (h : c < 2 * T) : (0 * 2048 + E) * T + (c - T) ≤ 2047 * T := by
  have h3 : E * T ≤ 2046 * T := Nat.mul_le_mul_right T h2
  rw [Nat.zero_mul, Nat.zero_add]
  omega
theorem dv_enc {c : Nat} {q : Int} (h : c < 2 ^ 53) (hq : q ≤ 971) : FP.Core.encode FP.Core.b64 (.fin false c q) ≤ 0x7ff0000000000000 := by
  have ht : FP.Core.b64.tails = 4503599627370496 := rfl
  have hx : FP.Core.b64.exps = 2048 := rfl
  have hm : FP.Core.b64.qmin = -1074 := rfl
  unfold FP.Core.encode FP.Core.assemble
  rw [ht, hx, hm]
  simp only [Bool.toNat_false]
  by_cases h1 : c < 4503599627370496
  · rw [if_pos h1]; omega
  · rw [if_neg h1]
    have h2 : (q - (-1074)).toNat + 1 ≤ 2046 := by omega
    exact Nat.le_trans (dv_b _ c 4503599627370496 h2 h) (by decide)
theorem dv_settle (c : Nat) (q : Int) : FP.Core.encode FP.Core.b64 (FP.Core.settle FP.Core.b64 false c q) ≤ 0x7ff0000000000000 := by
  have hp : FP.Core.b64.p = 53 := rfl
  have hM : FP.Core.b64.qmax = 971 := rfl
  have hi : FP.Core.encode FP.Core.b64 (.inf false) ≤ 0x7ff0000000000000 := by decide
  unfold FP.Core.settle FP.Core.bound
  rw [hp, hM]
  by_cases h1 : c < 2 ^ 53
  · rw [if_pos h1]
    by_cases h2 : q ≤ 971
    · rw [if_pos h2]; exact dv_enc h1 h2
    · rw [if_neg h2]; exact hi
  · rw [if_neg h1]
    by_cases h2 : q + 1 ≤ 971
    · rw [if_pos h2]; exact dv_enc (by decide) h2
    · rw [if_neg h2]; exact hi
theorem dv_ok {a b : Nat} (ha : a < 784) (hb : b < 784) (h0 : 0 < b) : (FP.ddiv (FP.i2d (nI a)) (FP.i2d (nI b))) &&& 0x7fffffffffffffff ≤ 0x7ff0000000000000 := by
  obtain ⟨c, q, e1, -⟩ := dv_ex ha
  obtain ⟨d, r, e2, hd⟩ := dv_ex hb
  have hd0 : d ≠ 0 := hd.elim id (fun h => by omega)
  have key : FP.Core.div FP.Core.b64 (FP.i2d (nI a)).toNat (FP.i2d (nI b)).toNat ≤ 0x7ff0000000000000 := by
    unfold FP.Core.div
    rw [e1, e2]
    show FP.Core.encode _ (if d = 0 then _ else FP.Core.roundRatio _ _ c d (q - r)) ≤ _
    rw [if_neg hd0]
    show FP.Core.encode _ (if c = 0 then _ else FP.Core.settle _ false _ _) ≤ _
    by_cases hc : c = 0
    · rw [if_pos hc]; exact dv_enc (by decide) (by decide)
    · rw [if_neg hc]; exact dv_settle _ _
  rw [UInt64.le_iff_toNat_le, UInt64.toNat_and]
  refine Nat.le_trans Nat.and_le_left ?_
  show (UInt64.ofNat (FP.Core.div FP.Core.b64 (FP.i2d (nI a)).toNat (FP.i2d (nI b)).toNat)).toNat ≤ _
  rw [UInt64.toNat_ofNat']
  exact Nat.le_trans (Nat.mod_le _ _) key
/-! ranks -/
theorem cn_le2 {p q : Nat → Bool} : ∀ {n : Nat}, (∀ k, k < n → p k = true → q k = true) → cn p n ≤ cn q n
  | 0, _ => Nat.le_refl 0
  | n + 1, h => by
    have ih := cn_le2 (n := n) (fun k hk => h k (by omega))
    have hn := h n (by omega)
    rw [cn, cn]
    cases hp : p n with
    | false => simp only [Bool.false_eq_true, if_false]; omega
    | true => rw [hn hp]; simp only [if_true]; omega
theorem cn_lt2 {p q : Nat → Bool} : ∀ {n j : Nat}, (∀ k, k < n → p k = true → q k = true) → j < n → q j = true → p j = false → cn p n < cn q n
  | 0, _, _, h, _, _ => by omega
  | n + 1, j, h, hj, hq, hp => by
    have hn := h n (by omega)
    rw [cn, cn]
    by_cases e : j = n
    · subst e
      have ih := cn_le2 (n := j) (fun k hk => h k (by omega))
      rw [hq, hp]
      simp only [Bool.false_eq_true, if_false, if_true]
      omega
    · have ih := cn_lt2 (n := n) (fun k hk => h k (by omega)) (show j < n by omega) hq hp
      cases hp2 : p n with
      | false => simp only [Bool.false_eq_true, if_false]; omega
      | true => rw [hn hp2]; simp only [if_true]; omega
theorem cn_true (n : Nat) : cn (fun _ => true) n = n := by
  induction n with
  | zero => rfl
  | succ n ih => rw [cn, ih]; rfl
theorem bfr_iff {b : Nat → Int32} {r o : Nat} : bfr b r o = true ↔ ((b r).toInt < (b o).toInt ∨ ((b o).toInt = (b r).toInt ∧ o < r)) := by
  unfold bfr
  rw [decide_eq_true_iff, Int32.lt_iff_toInt_lt, ← Int32.toInt_inj]
theorem rk_lt (b : Nat → Int32) {n r : Nat} (hr : r < n) : rk b n r < n := by
  have h := cn_lt2 (p := bfr b r) (q := fun _ => true) (n := n) (j := r) (fun _ _ _ => rfl) hr rfl (by
    cases hb : bfr b r r with
    | false => rfl
    | true => have := bfr_iff.mp hb; omega)
  rw [cn_true] at h
  exact h
theorem rk_mono (b : Nat → Int32) {n r o : Nat} (ho : o < n) (h : bfr b r o = true) : rk b n o < rk b n r := by
  have h1 := bfr_iff.mp h
  refine cn_lt2 (j := o) (fun k _ hk => ?_) ho h ?_
  · have h2 := bfr_iff.mp hk
    exact bfr_iff.mpr (by omega)
  · cases hb : bfr b o o with
    | false => rfl
    | true => have := bfr_iff.mp hb; omega
theorem bfr_tot (b : Nat → Int32) {r o : Nat} (h : r ≠ o) : bfr b r o = true ∨ bfr b o r = true := by
  rw [bfr_iff, bfr_iff]
  omega
theorem rk_inj (b : Nat → Int32) {n r o : Nat} (hr : r < n) (ho : o < n) (h : rk b n r = rk b n o) : r = o := by
  by_cases e : r = o
  · exact e
  · rcases bfr_tot b e with q | q
    · have := rk_mono b ho q; omega
    · have := rk_mono b hr q; omega
theorem inj_surj : ∀ (n : Nat) (g : Nat → Nat), (∀ i, i < n → g i < n) → (∀ i, i < n → ∀ j, j < n → g i = g j → i = j) → ∀ p, p < n → ∃ i, i < n ∧ g i = p
  | 0, _, _, _, _, h => by omega
  | n + 1, g, h1, h2, p, hp => by
    have hv := h1 n (by omega)
    by_cases e : p = g n
    · exact ⟨n, by omega, e.symm⟩
    · have ih := inj_surj n (fun i => if g i = n then g n else g i) (fun i hi => by
        show (if g i = n then g n else g i) < n
        by_cases q : g i = n
        · rw [if_pos q]
          have : g n ≠ n := fun w => by have := h2 i (by omega) n (by omega) (by omega); omega
          omega
        · rw [if_neg q]; have := h1 i (by omega); omega) (fun i hi j hj hij => by
        have hij' : (if g i = n then g n else g i) = (if g j = n then g n else g j) := hij
        by_cases q1 : g i = n <;> by_cases q2 : g j = n
        · exact h2 i (by omega) j (by omega) (by omega)
        · rw [if_pos q1, if_neg q2] at hij'
          have := h2 n (by omega) j (by omega) hij'; omega
        · rw [if_neg q1, if_pos q2] at hij'
          have := h2 i (by omega) n (by omega) hij'; omega
        · rw [if_neg q1, if_neg q2] at hij'
          exact h2 i (by omega) j (by omega) hij')
      by_cases e2 : p = n
      · obtain ⟨i, hi, hg⟩ := ih (g n) (by omega)
        have hg' : (if g i = n then g n else g i) = g n := hg
        by_cases q : g i = n
        · exact ⟨i, by omega, by omega⟩
        · rw [if_neg q] at hg'
          have := h2 i (by omega) n (by omega) hg'; omega
      · obtain ⟨i, hi, hg⟩ := ih p (by omega)
        have hg' : (if g i = n then g n else g i) = p := hg
        by_cases q : g i = n
        · rw [if_pos q] at hg'; omega
        · rw [if_neg q] at hg'
          exact ⟨i, by omega, hg'⟩
theorem rk_surj (b : Nat → Int32) {n p : Nat} (hp : p < n) : ∃ r, r < n ∧ rk b n r = p :=
  inj_surj n (rk b n) (fun _ h => rk_lt b h) (fun _ h1 _ h2 h3 => rk_inj b h1 h2 h3) p hp
theorem rqA_is {f : Nat → Int64} (hq : isn (f 1) 11) {p r : Nat} (hr : r < nq f) (h : rk (bq f) (nq f) r = p) : rqA f (nI p) = some r := by
  have h10 : nq f < 11 := hq.2
  refine fd_is (Nat.zero_le _) (by omega) (decide_eq_true (by rw [h])) (fun i _ hi => decide_eq_false (fun e => ?_))
  have h1 := rk_lt (bq f) (n := nq f) (r := i) (by omega)
  have h2 := rk_lt (bq f) hr
  rw [li_eq (by omega) (by omega)] at e
  have := rk_inj (bq f) (n := nq f) (r := i) (o := r) (by omega) hr (by omega)
  omega
theorem rqA_no {f : Nat → Int64} (hq : isn (f 1) 11) {p : Int32} (h : inN p (nq f) = false) : rqA f p = none := by
  have h10 : nq f < 11 := hq.2
  refine fd_no (fun i _ hi => decide_eq_false (fun e => ?_))
  have h1 := rk_lt (bq f) (n := nq f) (r := i) (by omega)
  rw [← e, inN_n (by omega)] at h
  simp at h
  omega
section SI2
variable {I : Nat → Nat → Int32} {J : Nat → Nat → Int64} {x : Nat} {NH NY NE NR : Nat}
/-- an answer that nothing refuses -/
def Ask {α : Type} (cl md : ab_Mm → Option (α × ab_Mm)) (I : Nat → Nat → Int32) (J : Nat → Nat → Int64) (x : Nat) : Prop :=
  ∃ v : α, cl (S0, I, J, x) = some (v, (S0, I, J, x)) ∧ md (S0, I, J, x) = some (v, (S0, th I 0, J, x))
theorem m_P0 (v : Int32) : ab_pI (S0, I, J, x) 12 200 0 v = some (S0, th I v, J, x) := pI_X12_0 okM v
theorem a_hostCount (q : Q I J NH NY NE NR) : Ask (dd_X11_hostCount 0) (dd_X12_hostCount 200) I J x := by
  obtain ⟨hc, hg, hl, hs, hf, hp⟩ := q
  refine ⟨nI NH, ?_, ?_⟩
  · unfold dd_X11_hostCount
    simp only [c_R1, d_R0, ob_s, fI_X10_3 cl17.2.1.1, hl.2.1.1]
  · unfold dd_X12_hostCount
    have hc' : mc (th I 0) NH NY NE NR := hc
    simp only [m_P0, ob_s, m_rc, m_R1, m_R2, m_R3, m_R4, m_R5, m_R6, m_R7, m_R8, m_R9, m_F0, m_to0, hc'.1.1]
theorem a_clock (q : Q I J NH NY NE NR) : Ask (dd_X11_clock 0) (dd_X12_clock 200) I J x := by
  obtain ⟨hc, hg, hl, hs, hf, hp⟩ := q
  refine ⟨clk (J 201), ?_, ?_⟩
  · unfold dd_X11_clock
    simp only [c_R2, e_F0, ob_s, hs.2.1]
  · unfold dd_X12_clock
    simp only [m_P0, ob_s, m_rc, m_R1, m_R2, m_R3, m_R4, m_R5, m_R6, m_R7, m_R8, m_R9, m_F0, m_n0]
    rfl
theorem a_running (q : Q I J NH NY NE NR) : Ask (dd_X11_running 0) (dd_X12_running 200) I J x := by
  obtain ⟨hc, hg, hl, hs, hf, hp⟩ := q
  refine ⟨sets (rn (J 201)), ?_, ?_⟩
  · unfold dd_X11_running
    simp only [c_R2, e_F1, ob_s, hs.2.2.1]
  · unfold dd_X12_running
    simp only [m_P0, ob_s, m_rc, m_R1, m_R2, m_R3, m_R4, m_R5, m_R6, m_R7, m_R8, m_R9, m_F0, m_ones]
theorem a_waiting (q : Q I J NH NY NE NR) : Ask (dd_X11_waiting 0) (dd_X12_waiting 200) I J x := by
  obtain ⟨hc, hg, hl, hs, hf, hp⟩ := q
  refine ⟨nI (nq (J 201)), ?_, ?_⟩
  · unfold dd_X11_waiting
    simp only [c_R2, e_R3, ob_s, fI_X10_3 si31.2.2.1.1]
    exact congrArg (fun v => some (v, (S0, I, J, x))) hs.2.2.2.2.2.2.1
  · unfold dd_X12_waiting
    simp only [m_P0, ob_s, m_rc, m_R1, m_R2, m_R3, m_R4, m_R5, m_R6, m_R7, m_R8, m_R9, m_F0, m_n1, isn_32 hf.2.1]
    rfl
theorem a_waitingBid (q : Q I J NH NY NE NR) (a : Int32) : Ask (dd_X11_waitingBid 0 a) (dd_X12_waitingBid 200 a) I J x := by
  obtain ⟨hc, hg, hl, hs, hf, hp⟩ := q
  have h10 : nq (J 201) < 11 := hf.2.1.2
  have hsz : I 35 3 = nI (nq (J 201)) := hs.2.2.2.2.2.2.1
  cases h : inN a (nq (J 201)) with
  | false =>
    refine ⟨-1, ?_, ?_⟩
    · unfold dd_X11_waitingBid
      simp only [c_R2, e_R3, t_34, ob_s, tb_has si31.2.2.1.1]
      have e := has_in a (show nq (J 201) < 1000 by omega)
      rw [h] at e
      rw [hsz, e]; rfl
    · unfold dd_X12_waitingBid
      simp only [m_P0, ob_s, m_rc, m_R1, m_R2, m_R3, m_R4, m_R5, m_R6, m_R7, m_R8, m_R9, m_F0, m_reqAt hf.2.1, rqA_no hf.2.1 h]
      rfl
  | true =>
    obtain ⟨p, hp1, rfl⟩ := inN_ex h (by omega)
    obtain ⟨r, hr, hrk⟩ := rk_surj (bq (J 201)) hp1
    refine ⟨bq (J 201) r, ?_, ?_⟩
    · unfold dd_X11_waitingBid
      simp only [c_R2, e_R3, t_34, ob_s, tb_has si31.2.2.1.1]
      have e := has_in (nI p) (show nq (J 201) < 1000 by omega)
      rw [h] at e
      rw [hsz, e, if_neg (by decide), si_getq (s := 32) si31 hs.1 rfl (li_n 2) (show p < 10 by omega) (by omega), ob_s, bb_X11_waitingBid_30]
      have := hs.2.2.2.2.2.2.2 r hr 2 (by omega)
      rw [hrk] at this
      rw [this]; rfl
    · unfold dd_X12_waitingBid
      simp only [m_P0, ob_s, m_rc, m_R1, m_R2, m_R3, m_R4, m_R5, m_R6, m_R7, m_R8, m_R9, m_F0, m_reqAt hf.2.1, rqA_is hf.2.1 hr hrk]
      rw [if_neg (nI_ne (by omega)), m_bidAt (by omega)]
      rfl
end SI2
