/-! ===== the sum of a move: codes, names, operands ===== -/
theorem dpt_congr {a b : Nat → Int32} : ∀ {n : Nat}, (∀ k, k < n → a k = b k) → dpt a n = dpt b n
  | 0, _ => rfl
  | n + 1, h => by rw [dpt, dpt, h n (by omega), dpt_congr (fun k hk => h k (by omega))]
section CO
variable {I I' I0 I1 I2 I3 I4 M M' M0 M1 M2 : Nat → Nat → Int32} {J J' J1 J2 J3 J4 : Nat → Nat → Int64} {x x' : Nat} {T : Nat → Int32} {N p : Nat}
theorem okS14 : ok_X9 15 := rfl
theorem sh_15 : S0[16]? = some (1, 800, []) := rfl
theorem c_add {n : Nat} (c : Int32) (hn : I 15 1 = nI n) (h8 : n < 800) : dd_X9_add 15 c (S0, I, J, x) = some ((), (S0, ab_u (ab_u I 16 n c) 15 1 (nI (n + 1)), J, x)) := by
  have e : ab_u I 16 n c 15 1 = nI n := by rw [u_r (by omega)]; exact hn
  unfold dd_X9_add
  rw [fI_X9_1 okS14, ob_s, hn, if_neg (li_pos (by omega)), ob_s, fR_X9_0 okS14, ob_s, op_len sh_15, ob_s, if_neg (by rw [li_le (by omega) (by omega)]; omega), ob_s, ob_s, op_st _ sh_15 rfl h8 (by omega), ob_s, fI_X9_1 okS14, ob_s, e, nI_1, pI_X9_1 okS14, ob_s]
  rfl
/-- whatever the draft holds, a code can be added -/
theorem c_addAny (c : Int32) : ∃ I', dd_X9_add 15 c (S0, I, J, x) = some ((), (S0, I', J, x)) ∧ ∀ r, r ≠ 15 → r ≠ 16 → I' r = I r := by
  by_cases h : I 15 1 < 0
  · refine ⟨I, ?_, fun _ _ _ => rfl⟩
    unfold dd_X9_add
    rw [fI_X9_1 okS14, ob_s, if_pos h]
    rfl
  · by_cases h2 : nI 800 ≤ I 15 1
    · refine ⟨I, ?_, fun _ _ _ => rfl⟩
      unfold dd_X9_add
      rw [fI_X9_1 okS14, ob_s, if_neg h, ob_s, fR_X9_0 okS14, ob_s, op_len sh_15, ob_s, if_pos h2]
      rfl
    · have h3 : inN (I 15 1) 800 = true := by
        unfold inN
        rw [Int32.lt_iff_toInt_lt] at h
        rw [Int32.le_iff_toInt_le, nI_toInt (by omega)] at h2
        have : (0 : Int32).toInt = 0 := rfl
        simp
        omega
      obtain ⟨j, hj, e⟩ := inN_ex h3 (by omega)
      exact ⟨_, c_add c e hj, fun r p1 p2 => by rw [u_r p1, u_r p2]⟩
theorem m_emit {n : Nat} (e : Int32) (hn : M 207 1 = nI n) (h8 : n < 820) : dd_X12_emit 200 e (S0, M, J, x) = some (1, (S0, ab_u (ab_u M 208 (820 + n) e) 207 1 (nI (n + 1)), J, x)) := by
  have e1 : ab_u M 208 (820 + n) e 207 1 = nI n := by rw [u_r (by omega)]; exact hn
  unfold dd_X12_emit
  rw [m_R8, ob_s, m_R7, ob_s, op_ld sh_205 (li_n 1) (by omega) (by omega), ob_s, hn]
  show ((ab_st (S0, M, J, x) 1 208 (nI 820 + nI n) e).bind _) = _
  rw [li_add, op_st _ sh_206 rfl (show 820 + n < 1640 by omega) (by omega), ob_s, m_R7, ob_s, op_ld sh_205 (li_n 1) (by omega) (by omega), ob_s, e1, nI_1, op_st _ sh_205 (li_n 1) (by omega) (by omega), ob_s]
/-- the codes so far, and how many values they leave -/
def XP (I M : Nat → Nat → Int32) (n D : Nat) : Prop := I 15 1 = nI n ∧ M 207 1 = nI n ∧ (∀ k, k < n → cdp (I 16 k) (M 208 (820 + k)) ∧ (0 < M 208 (820 + k) → dpt (fun k => M 208 (820 + k)) k < 13) ∧ (¬ 0 < M 208 (820 + k) → 2 ≤ dpt (fun k => M 208 (820 + k)) k)) ∧ dpt (fun k => M 208 (820 + k)) n = D
theorem XP_next {n D : Nat} {c e : Int32} (h : XP I M n D) (a1 : I' 15 1 = nI (n + 1)) (a2 : ∀ k, k < n → I' 16 k = I 16 k) (a3 : I' 16 n = c) (b1 : M' 207 1 = nI (n + 1)) (b2 : ∀ k, k < n → M' 208 (820 + k) = M 208 (820 + k)) (b3 : M' 208 (820 + n) = e) (hce : cdp c e) (h1 : 0 < e → D < 13) (h2 : ¬ 0 < e → 2 ≤ D) : XP I' M' (n + 1) (if 0 < e then D + 1 else D - 1) := by
  obtain ⟨x1, x2, x3, x4⟩ := h
  have ed : ∀ k, k ≤ n → dpt (fun k => M' 208 (820 + k)) k = dpt (fun k => M 208 (820 + k)) k := fun k hk => dpt_congr (fun j hj => b2 j (by omega))
  refine ⟨a1, b1, fun k hk => ?_, ?_⟩
  · by_cases q : k = n
    · rw [q, a3, b3, ed n (Nat.le_refl _), x4]
      exact ⟨hce, h1, h2⟩
    · rw [a2 k (by omega), b2 k (by omega), ed k (by omega)]
      exact x3 k (by omega)
  · show (if 0 < M' 208 (820 + n) then dpt (fun k => M' 208 (820 + k)) n + 1 else dpt (fun k => M' 208 (820 + k)) n - 1) = _
    rw [b3, ed n (Nat.le_refl _), x4]
theorem XP_sam {n D : Nat} (h : XP I M n D) (a1 : I' 15 = I 15) (a2 : I' 16 = I 16) (b1 : M' 207 = M 207) (b2 : M' 208 = M 208) : XP I' M' n D := by
  unfold XP at h ⊢
  rw [a1, a2, b1, b2]
  exact h
/-- a code is put on both sides -/
theorem XP_both {n D : Nat} {c e : Int32} (h : XP I M n D) (hce : cdp c e) (h1 : 0 < e → D < 13) (h2 : ¬ 0 < e → 2 ≤ D) : XP (ab_u (ab_u I 16 n c) 15 1 (nI (n + 1))) (ab_u (ab_u M 208 (820 + n) e) 207 1 (nI (n + 1))) (n + 1) (if 0 < e then D + 1 else D - 1) :=
  XP_next h u_e (fun k hk => by rw [u_r (by omega), u_k (by omega)]) (by rw [u_r (by omega), u_e]) u_e (fun k hk => by rw [u_r (by omega), u_k (by omega)]) (by rw [u_r (by omega), u_e]) hce h1 h2
/-- the name at a place -/
def nmC (T : Nat → Int32) (N p : Nat) : Int32 := if isW T N p 8 then -1 else if isW T N p 9 then -2 else if isW T N p 10 then -3 else if isW T N p 11 then -4 else 0
def nmM (T : Nat → Int32) (N p : Nat) : Int32 := if isW T N p 8 then 1 else if isW T N p 9 then 2 else if isW T N p 10 then 3 else if isW T N p 11 then 4 else 0
theorem c_name (h : tkC I T N p) : dd_X7_name 1 (S0, I, J, x) = some (nmC T N p, (S0, I, J, x)) := by
  have w8 : dd_X7_isWord 1 1016 (S0, I, J, x) = _ := c_isWord (J := J) (x := x) h (i := 8) (by omega)
  have w9 : dd_X7_isWord 1 1018 (S0, I, J, x) = _ := c_isWord (J := J) (x := x) h (i := 9) (by omega)
  have w10 : dd_X7_isWord 1 1020 (S0, I, J, x) = _ := c_isWord (J := J) (x := x) h (i := 10) (by omega)
  have w11 : dd_X7_isWord 1 1022 (S0, I, J, x) = _ := c_isWord (J := J) (x := x) h (i := 11) (by omega)
  unfold dd_X7_name nmC
  rw [r_rc, ob_s, w8, ob_s]
  cases isW T N p 8 with
  | true => rfl
  | false =>
    simp only [Bool.false_eq_true, if_false, if_true]
    rw [r_rc, ob_s, w9, ob_s]
    cases isW T N p 9 with
    | true => rfl
    | false =>
      simp only [Bool.false_eq_true, if_false, if_true]
      rw [r_rc, ob_s, w10, ob_s]
      cases isW T N p 10 with
      | true => rfl
      | false =>
        simp only [Bool.false_eq_true, if_false, if_true]
        rw [r_rc, ob_s, w11, ob_s]
        cases isW T N p 11 <;> rfl
theorem m_name (h : tkM M T N p) : dd_X12_nameHere 200 (S0, M, J, x) = some (nmM T N p, (S0, M, J, x)) := by
  have w8 : dd_X12_isWord 200 1040 (S0, M, J, x) = some (if isW T N p 8 then 1 else 0, (S0, M, J, x)) := by
    have q := m_isWord (J := J) (x := x) h (i := 20) (by omega)
    rw [isW_12 (i := 8) (by omega)] at q; exact q
  have w9 : dd_X12_isWord 200 1042 (S0, M, J, x) = some (if isW T N p 9 then 1 else 0, (S0, M, J, x)) := by
    have q := m_isWord (J := J) (x := x) h (i := 21) (by omega)
    rw [isW_12 (i := 9) (by omega)] at q; exact q
  have w10 : dd_X12_isWord 200 1044 (S0, M, J, x) = some (if isW T N p 10 then 1 else 0, (S0, M, J, x)) := by
    have q := m_isWord (J := J) (x := x) h (i := 22) (by omega)
    rw [isW_12 (i := 10) (by omega)] at q; exact q
  have w11 : dd_X12_isWord 200 1046 (S0, M, J, x) = some (if isW T N p 11 then 1 else 0, (S0, M, J, x)) := by
    have q := m_isWord (J := J) (x := x) h (i := 23) (by omega)
    rw [isW_12 (i := 11) (by omega)] at q; exact q
  unfold dd_X12_nameHere nmM
  rw [m_rc, ob_s, w8, ob_s]
  cases isW T N p 8 with
  | true => rfl
  | false =>
    simp only [Bool.false_eq_true, if_false, if_true]
    rw [m_rc, ob_s, w9, ob_s]
    cases isW T N p 9 with
    | true => rfl
    | false =>
      simp only [Bool.false_eq_true, if_false, if_true]
      rw [m_rc, ob_s, w10, ob_s]
      cases isW T N p 10 with
      | true => rfl
      | false =>
        simp only [Bool.false_eq_true, if_false, if_true]
        rw [m_rc, ob_s, w11, ob_s]
        cases isW T N p 11 <;> rfl
theorem nm_rel (T : Nat → Int32) (N p : Nat) : (nmC T N p = 0 ∧ nmM T N p = 0) ∨ (nmC T N p ≠ 0 ∧ nmM T N p ≠ 0 ∧ cdp (nmC T N p) (nmM T N p) ∧ 0 < nmM T N p) := by
  unfold nmC nmM
  cases isW T N p 8 with
  | true =>
    simp only [if_true]
    exact Or.inr ⟨by decide, by decide, Or.inr (Or.inl ⟨rfl, rfl⟩), by decide⟩
  | false =>
    simp only [Bool.false_eq_true, if_false]
    cases isW T N p 9 with
    | true =>
      simp only [if_true]
      exact Or.inr ⟨by decide, by decide, Or.inr (Or.inr (Or.inl ⟨rfl, rfl⟩)), by decide⟩
    | false =>
      simp only [Bool.false_eq_true, if_false]
      cases isW T N p 10 with
      | true =>
        simp only [if_true]
        exact Or.inr ⟨by decide, by decide, Or.inr (Or.inr (Or.inr (Or.inl ⟨rfl, rfl⟩))), by decide⟩
      | false =>
        simp only [Bool.false_eq_true, if_false]
        cases isW T N p 11 with
        | true =>
          simp only [if_true]
          exact Or.inr ⟨by decide, by decide, Or.inr (Or.inr (Or.inr (Or.inr (Or.inl ⟨rfl, rfl⟩)))), by decide⟩
        | false => exact Or.inl ⟨rfl, rfl⟩
/-- what a sum leaves as it is -/
def frX (I I' : Nat → Nat → Int32) : Prop := (∀ r, r ≠ 1 → r ≠ 15 → r ≠ 16 → I' r = I r) ∧ I' 1 10 = I 1 10
def frY (M M' : Nat → Nat → Int32) : Prop := (∀ r, r ≠ 200 → r ≠ 207 → r ≠ 208 → M' r = M r) ∧ M' 200 19 = M 200 19
theorem frX_trans (h : frX I I1) (h' : frX I1 I2) : frX I I2 := ⟨fun r a b c => (h'.1 r a b c).trans (h.1 r a b c), h'.2.trans h.2⟩
theorem frY_trans (h : frY M M1) (h' : frY M1 M2) : frY M M2 := ⟨fun r a b c => (h'.1 r a b c).trans (h.1 r a b c), h'.2.trans h.2⟩
theorem frX_ad (h : adC I I') : frX I I' := ⟨fun r a _ _ => h.1 r a, h.2 10 (by omega) (by omega) (by omega)⟩
theorem frY_ad (h : adM M M') : frY M M' := ⟨fun r a _ _ => h.1 r a, h.2 19 (by omega)⟩
/-- what a piece of a sum does on both sides -/
def okX (T : Nat → Int32) (N p : Nat) (I0 M0 I M : Nat → Nat → Int32) (b q D : Nat) (I' M' : Nat → Nat → Int32) : Prop := ∃ p' n', p ≤ p' ∧ STT T N p' I0 M0 I' M' ∧ M' 200 20 = nI b ∧ XP I' M' n' D ∧ n' + q ≤ p' ∧ frX I I' ∧ frY M M'
/-- an operand -/
theorem L_operand (h : STT T N p I0 M0 I M) {b n q D : Nat} (hb : M 200 20 = nI b) (hx : XP I M n D) (hq : n + q ≤ p) (hD : D < 13) (cf cs : Nat → Int32 → ab_Mm → Option (Int32 × ab_Mm)) (mf ms mt : Nat → ab_Mm → Option (Int32 × ab_Mm)) {c e : Int32} (hce : cdp c e) (he : 0 < e) (he0 : e ≠ 0) (htk : tk T N p ≠ 0) : LK I0 M0 J x J' x' (bb_X7_factor_87 cf cs 1 c (S0, I, J, x)) (bb_X12_factor_98 mf ms mt 200 e (S0, M, J', x')) (fun I' M' => p < nxt T N p ∧ okX T N (nxt T N p) I0 M0 I M b q (D + 1) I' M') := by
  have hp := h.1.2.1
  have hN := h.1.1.1
  have hs := tk_st htk
  have hst := stt_le (T := T) hp
  have hpn := (nxt_le (T := T) hp).2.2 htk
  have n8 : n < 800 := by omega
  have c2 : ∀ (Ia : Nat → Nat → Int32), ab_fR (S0, Ia, J, x) 7 1 3 = some 4 := fun _ => fR_X7_3 okR
  have c5 : ∀ (Ia : Nat → Nat → Int32), ab_fR (S0, Ia, J, x) 1 4 5 = some 15 := fun _ => op_fR (fs := [some (some 5), some (some 7), some (some 9), some (some 11), some (some 13), some (some 15)]) rfl rfl
  have h' : STT T N p I0 M0 (ab_u (ab_u I 16 n c) 15 1 (nI (n + 1))) M := STT_uC (STT_uC h _ (by omega)) _ (by omega)
  obtain ⟨I1, M1, r1, r2, r3, r4, r5⟩ := L_adv (J := J) (x := x) (J' := J') (x' := x') h'
  have e205 : M1 207 1 = nI n := by rw [r5.1 207 (by omega)]; exact hx.2.1
  rw [bb_X7_factor_87, c2, ob_s, c5, ob_s, rc_X9 okS14, ob_s, c_add c hx.1 n8, ob_s, r_rc, ob_s, r1, ob_s, bb_X12_factor_98, if_neg he0, m_rc, ob_s, r2, ob_s, m_rc, ob_s, m_emit e e205 (by omega), ob_s]
  dsimp only
  rw [h11, if_neg (by simp)]
  refine Or.inl ⟨I1, ab_u (ab_u M1 208 (820 + n) e) 207 1 (nI (n + 1)), rfl, rfl, hpn, nxt T N p, n + 1, Nat.le_refl _, STT_uM (STT_uM r3 _ (by omega)) _ (by omega), ?_, ?_, by omega, ⟨fun r p1 p2 p3 => ?_, ?_⟩, ⟨fun r p1 p2 p3 => ?_, ?_⟩⟩
  · rw [u_r (by omega), u_r (by omega), r5.2 20 (by omega)]; exact hb
  · have z := XP_next (I' := I1) (M' := ab_u (ab_u M1 208 (820 + n) e) 207 1 (nI (n + 1))) hx (by rw [r4.1 15 (by omega), u_e]) (fun k hk => by rw [r4.1 16 (by omega), u_r (by omega), u_k (by omega)]) (by rw [r4.1 16 (by omega), u_r (by omega), u_e]) u_e (fun k hk => by rw [u_r (by omega), u_k (by omega), r5.1 208 (by omega)]) (by rw [u_r (by omega), u_e]) hce (fun _ => hD) (fun z => absurd he z)
    rw [if_pos he] at z
    exact z
  · rw [r4.1 r p1, u_r p2, u_r p3]
  · rw [r4.2 10 (by omega) (by omega) (by omega), u_r (by omega), u_r (by omega)]
  · rw [u_r p2, u_r p3, r5.1 r p1]
  · rw [u_r (by omega), u_r (by omega), r5.2 19 (by omega)]
end CO
