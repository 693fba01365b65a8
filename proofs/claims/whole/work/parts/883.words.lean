/-! ===== words, numbers, signs ===== -/
def wl (i : Nat) : List Int32 := ab_by.getD i []
def wc (i k : Nat) : Int32 := (wl i).getD k 0
theorem wl_len : ∀ i, i < 24 → (wl i).length ≤ 8 := by decide
theorem wl_sh : ∀ n, n < 16 → (Int32.ofNat n) >>> ((0 : Int32) &&& 31) = nI n := by decide
theorem wc_ok : ∀ i, i < 24 → ∀ k, k < 8 → (((wc i k &&& (255 : Int32)).toUInt32 % 65536).toInt32 = wc i k) ∧ (wc i k).toUInt32.toUInt16.toUInt32.toInt32 = wc i k := by decide +kernel
theorem wl_12 : ∀ i, i < 12 → wl (i + 12) = wl i := by decide
theorem s_rs {i : Nat} (h : i < 24) : ab_rs (1000 + 2 * i) = some () := by
  unfold ab_rs
  rw [if_pos (by omega)]
theorem s_len {i : Nat} (h : i < 24) (m : ab_Mm) : dd_J0_length_8abf5 (1000 + 2 * i) m = some (nI (wl i).length, m) := by
  have h8 := wl_len i h
  have e1 : ab_sv (1000 + 2 * i) = some (1001 + 2 * i) := by
    unfold ab_sv
    rw [if_pos (by omega)]
    exact congrArg some (by omega)
  have e2 : ab_sl1 (1001 + 2 * i) = some (Int32.ofNat (wl i).length) := by
    unfold ab_sl1
    rw [if_pos (by omega), show (1001 + 2 * i - 1001) / 2 = i by omega]
    rfl
  have e3 : ab_sc (1000 + 2 * i) = some 0 := by
    unfold ab_sc
    rw [if_pos (by omega)]
  unfold dd_J0_length_8abf5 dd_J0_coder_7d493
  rw [e1, ob_s, e2, ob_s, s_rs h, ob_s, if_neg n10, e3, ob_s]
  unfold bb_J0_coder_7d493_14
  rw [if_neg (by decide), ob_s]
  dsimp only
  rw [wl_sh _ (by omega)]
theorem s_char {i k : Nat} (h : i < 24) (hk : k < (wl i).length) (m : ab_Mm) : dd_J0_charAt_5068e (1000 + 2 * i) (nI k) m = some (wc i k, m) := by
  have h8 := wl_len i h
  have e1 : ab_sv (1000 + 2 * i) = some (1001 + 2 * i) := by
    unfold ab_sv
    rw [if_pos (by omega)]
    exact congrArg some (by omega)
  have e2 : ab_sl1 (1001 + 2 * i) = some (Int32.ofNat (wl i).length) := by
    unfold ab_sl1
    rw [if_pos (by omega), show (1001 + 2 * i - 1001) / 2 = i by omega]
    rfl
  have e3 : ab_sc (1000 + 2 * i) = some 0 := by
    unfold ab_sc
    rw [if_pos (by omega)]
  have e4 : ab_ck (nI k) (Int32.ofNat (wl i).length) = some () := by
    unfold ab_ck
    exact if_pos ⟨li_pos (by omega), by
      show nI k < nI (wl i).length
      rw [li_lt (by omega) (by omega)]; exact hk⟩
  have e5 : ab_sb (1001 + 2 * i) (nI k) = some (wc i k) := by
    unfold ab_sb
    have ei : (1001 + 2 * i - 1001) / 2 = i := by omega
    have ng : ¬ (nI k < 0 ∨ (ab_by.getD i []).length ≤ (nI k).toNatClampNeg) := fun z => by
      rw [nI_clamp (by omega)] at z
      rcases z with z | z
      · exact li_pos (by omega) z
      · have : (wl i).length ≤ k := z
        omega
    rw [ei, if_pos ⟨by omega, by omega, by omega, ng⟩, nI_clamp (by omega)]
    rfl
  have ok := wc_ok i h k (by omega)
  unfold dd_J0_charAt_5068e dd_J0_isLatin1_aae02
  rw [s_rs h, ob_s, if_neg n10, e3, ob_s, if_pos rfl]
  unfold bb_J0_isLatin1_aae02_18
  rw [if_neg (by decide), ob_s, if_neg n10, e1, ob_s]
  unfold dd_J1_charAt_3b067
  rw [e2, ob_s, e4, ob_s, e5, ob_s, ok.1, if_neg (by rw [ok.2]; simp), ob_s, if_neg (by dsimp only; rw [ok.2]; simp)]
/-- the characters are those of a word -/
def alF (T : Nat → Int32) (s i : Nat) : Nat → Nat → Bool
  | 0, _ => true
  | m + 1, k => if T (s + k) = wc i k then alF T s i m (k + 1) else false
def isW (T : Nat → Int32) (N p i : Nat) : Bool := if tk T N p = 1 then (if nxt T N p - stt T N p = (wl i).length then alF T (stt T N p) i (wl i).length 0 else false) else false
theorem isW_12 {T : Nat → Int32} {N p i : Nat} (h : i < 12) : isW T N p (i + 12) = isW T N p i := by
  have e := wl_12 i h
  have ea : ∀ m k, alF T (stt T N p) (i + 12) m k = alF T (stt T N p) i m k := by
    intro m
    induction m with
    | zero => intro k; rfl
    | succ m ih =>
      intro k
      rw [alF, alF, ih]
      have : wc (i + 12) k = wc i k := by unfold wc; rw [e]
      rw [this]
  unfold isW
  rw [e, ea]
theorem tk4 {T : Nat → Int32} {N p : Nat} (h : tk T N p = 4) : sor (T (stt T N p)) = 4 := by
  unfold tk at h
  split at h
  · omega
  · split at h
    · split at h <;> omega
    · split at h
      · split at h <;> omega
      · split at h
        · assumption
        · omega
theorem tk_st {T : Nat → Int32} {N p : Nat} (h : tk T N p ≠ 0) : stt T N p < N := by
  unfold tk at h
  split at h
  · exact absurd rfl h
  · omega
theorem kdC_lo {T : Nat → Int32} {N p c : Nat} (hc : c < 4) : (kdC T N p = nI c) = (tk T N p = c) := by
  have hl := tk_lt T N p
  unfold kdC
  by_cases h : tk T N p = 4
  · rw [if_pos h]
    have s4 := tk4 h
    refine propext ⟨fun e => ?_, fun e => by omega⟩
    rw [e] at s4
    have : ∀ c, c < 4 → sor (nI c) ≠ 4 := by decide
    exact absurd s4 (this c hc)
  · rw [if_neg h, li_eq (by omega) (by omega)]
theorem kdC_sg {T : Nat → Int32} {N p : Nat} {c : Int32} (hc : sor c = 4) : (kdC T N p = c) = (tk T N p = 4 ∧ T (stt T N p) = c) := by
  have hl := tk_lt T N p
  unfold kdC
  by_cases h : tk T N p = 4
  · rw [if_pos h]; simp [h]
  · rw [if_neg h]
    refine propext ⟨fun e => ?_, fun e => absurd e.1 h⟩
    have : ∀ c, c < 4 → sor (nI c) ≠ 4 := by decide
    rw [← e] at hc
    exact absurd hc (this _ (by omega))
theorem kdM_lo {T : Nat → Int32} {N p c : Nat} (hc : c < 3) : (kdM T N p = nI c) = (tk T N p = c) := by
  have hl := tk_lt T N p
  unfold kdM
  by_cases h : tk T N p = 4
  · rw [if_pos h]
    refine propext ⟨fun e => ?_, fun e => by omega⟩
    have : ∀ c, c < 3 → (3 : Int32) ≠ nI c := by decide
    exact absurd e (this c hc)
  · by_cases h3 : tk T N p = 3
    · rw [if_neg h, if_pos h3]
      refine propext ⟨fun e => ?_, fun e => by omega⟩
      have : ∀ c, c < 3 → (4 : Int32) ≠ nI c := by decide
      exact absurd e (this c hc)
    · rw [if_neg h, if_neg h3, li_eq (by omega) (by omega)]
theorem kdM_sg {T : Nat → Int32} {N p : Nat} : (kdM T N p = 3) = (tk T N p = 4) := by
  have hl := tk_lt T N p
  unfold kdM
  by_cases h : tk T N p = 4
  · rw [if_pos h]; simp [h]
  · by_cases h3 : tk T N p = 3
    · rw [if_neg h, if_pos h3]
      refine propext ⟨fun e => absurd e (by decide), fun e => by omega⟩
    · rw [if_neg h, if_neg h3]
      refine propext ⟨fun e => ?_, fun e => by omega⟩
      have : ∀ c, c < 3 → nI c ≠ (3 : Int32) := by decide
      exact absurd e (this _ (by omega))
theorem by8_dg : ∀ k, k < 256 → sor (by8 k) = 2 → 176 ≤ k ∧ k ≤ 185 ∧ by8 k = nI (k - 128) := by decide +kernel
theorem nf_is {T : Nat → Int32} {s : Nat} : ∀ {k : Nat}, (∀ i, i < k → sor (T (s + i)) = 2 ∧ (-128 ≤ (T (s + i)).toInt ∧ (T (s + i)).toInt ≤ 127)) → ∃ v, v < 10 ^ k ∧ nf T s k = nI v
  | 0, _ => ⟨0, by simp, rfl⟩
  | k + 1, h => by
    obtain ⟨v, v1, v2⟩ := nf_is (T := T) (s := s) (k := k) (fun i hi => h i (by omega))
    have hk := h k (by omega)
    obtain ⟨q, hq, e⟩ := by8_ex hk.2
    rw [e] at hk
    have d := by8_dg q hq hk.1
    refine ⟨10 * v + (q - 176), by rw [Nat.pow_succ]; omega, ?_⟩
    rw [nf, v2, e, d.2.2]
    show nI v * nI 10 + nI (q - 128) - nI 48 = _
    rw [li_mul, li_add, pk_sub (by omega)]
    exact congrArg nI (by omega)
section WD
variable {I I' I0 I1 I2 I3 I4 : Nat → Nat → Int32} {J J' J1 J2 J3 J4 : Nat → Nat → Int64} {x : Nat} {T : Nat → Int32} {N p : Nat}
theorem vl_is (hT : rgT T N) (hp : p ≤ N) (h : tk T N p = 2) : ∃ v, v ≤ 9999 ∧ vlN T N p = nI v := by
  have hs := tk_st (show tk T N p ≠ 0 by omega)
  have hn := nxt_le (T := T) hp
  have c : ¬ N ≤ stt T N p := by omega
  have c1 : ¬ sor (T (stt T N p)) = 1 := fun z => by
    unfold tk at h
    rw [if_neg c, if_pos z] at h
    split at h <;> omega
  have c2 : sor (T (stt T N p)) = 2 := Classical.byContradiction fun z => by
    unfold tk at h
    rw [if_neg c, if_neg c1, if_neg z] at h
    split at h <;> omega
  have c3 : nxt T N p - stt T N p ≤ 4 := Classical.byContradiction fun z => by
    unfold tk at h
    rw [if_neg c, if_neg c1, if_pos c2, if_neg z] at h
    omega
  have en : nxt T N p = rE T 2 (N - stt T N p) (stt T N p) := by unfold nxt; rw [if_neg c, if_neg c1, if_pos c2]
  obtain ⟨v, v1, v2⟩ := nf_is (T := T) (s := stt T N p) (k := nxt T N p - stt T N p) (fun i hi => ⟨rE_in (T := T) (s := 2) (k := N - stt T N p) (p := stt T N p) (by omega) (by omega), hT _ (by omega)⟩)
  refine ⟨v, ?_, v2⟩
  have : 10 ^ (nxt T N p - stt T N p) ≤ 10 ^ 4 := Nat.pow_le_pow_right (by omega) c3
  omega
theorem c_isWord (h : tkC I T N p) {i : Nat} (hi : i < 24) : dd_X7_isWord 1 (1000 + 2 * i) (S0, I, J, x) = some (if isW T N p i then 1 else 0, (S0, I, J, x)) := by
  obtain ⟨⟨h8, h5, hT⟩, hp, e6, e7, e8⟩ := h
  have hst := stt_le (T := T) hp
  have hnx := nxt_le (T := T) hp
  have hl := wl_len i hi
  unfold dd_X7_isWord
  rw [r_f8, ob_s, e8]
  have k1 : (kdC T N p = 1) = (tk T N p = 1) := kdC_lo (c := 1) (by omega)
  by_cases c1 : tk T N p = 1
  · rw [if_pos (by rw [k1]; exact c1), r_f6, ob_s, r_f7, ob_s, s_rs hi, ob_s, s_len hi, ob_s, e6, e7, pk_sub hnx.1]
    unfold isW
    rw [if_pos c1]
    by_cases c2 : nxt T N p - stt T N p = (wl i).length
    · rw [if_pos (by dsimp only; rw [c2]), if_pos c2]
      have loop : ∀ (q fu k : Nat), k + q = (wl i).length → q < fu → bb_X7_isWord_28 fu 1 (1000 + 2 * i) (nI k) (S0, I, J, x) = some (if alF T (stt T N p) i q k then 1 else 0, (S0, I, J, x)) := by
        intro q
        induction q with
        | zero =>
          intro fu k a1 a2
          obtain ⟨fu, rfl⟩ : ∃ z, fu = z + 1 := ⟨fu - 1, by omega⟩
          rw [bb_X7_isWord_28, s_rs hi, ob_s, s_len hi, ob_s, if_pos (by rw [li_le (by omega) (by omega)]; omega)]
          rfl
        | succ q ih =>
          intro fu k a1 a2
          obtain ⟨fu, rfl⟩ : ∃ z, fu = z + 1 := ⟨fu - 1, by omega⟩
          have hk : stt T N p + k < N := by omega
          rw [bb_X7_isWord_28, s_rs hi, ob_s, s_len hi, ob_s, if_neg (by rw [li_le (by omega) (by omega)]; omega), r_f7, ob_s, e7, li_add, if_neg (li_pos (by omega)), r_f0, ob_s, op_len sh_2, ob_s, if_neg (by rw [li_le (by omega) (by omega)]; omega), ob_s, op_ld sh_2 rfl (by omega) (by omega), ob_s, (hT _ hk).1, ob_s, s_char hi (by omega), ob_s, alF]
          dsimp only
          by_cases c : T (stt T N p + k) = wc i k
          · rw [if_pos c, if_pos c, nI_1]
            exact ih fu (k + 1) (by omega) (by omega)
          · rw [if_neg c, if_neg c]
            rfl
      exact loop (wl i).length ab_fu 0 (by omega) (ab_fu_big (by omega))
    · rw [if_neg (by dsimp only; rw [li_eq (by omega) (by omega)]; exact c2), if_neg c2]
      rfl
  · rw [if_neg (by rw [k1]; exact c1)]
    unfold isW
    rw [if_neg c1]
    rfl
theorem m_isWord (h : tkM I T N p) {i : Nat} (hi : i < 24) : dd_X12_isWord 200 (1000 + 2 * i) (S0, I, J, x) = some (if isW T N p i then 1 else 0, (S0, I, J, x)) := by
  obtain ⟨⟨h8, hr, h11, hT⟩, hp, e12, e13, e14, _, _⟩ := h
  have hst := stt_le (T := T) hp
  have hnx := nxt_le (T := T) hp
  have hl := wl_len i hi
  have zero : ∀ fu, bb_X12_isWord_32 (fu + 1) 200 (1000 + 2 * i) 0 0 (S0, I, J, x) = some (0, (S0, I, J, x)) := by
    intro fu
    rw [bb_X12_isWord_32, s_rs hi, ob_s, s_len hi, ob_s]
    split
    · rfl
    · rfl
  unfold dd_X12_isWord
  rw [m_F14, ob_s, e14]
  have k1 : (kdM T N p = 1) = (tk T N p = 1) := kdM_lo (c := 1) (by omega)
  by_cases c1 : tk T N p = 1
  · rw [if_pos (by rw [k1]; exact c1), m_F13, ob_s, m_F12, ob_s, s_rs hi, ob_s, s_len hi, ob_s, e12, e13, pk_sub hnx.1]
    unfold isW
    rw [if_pos c1]
    by_cases c2 : nxt T N p - stt T N p = (wl i).length
    · rw [if_pos (by dsimp only; rw [c2]), if_pos c2]
      have loop : ∀ (q fu k : Nat), k + q = (wl i).length → q + 1 < fu → bb_X12_isWord_32 fu 200 (1000 + 2 * i) 1 (nI k) (S0, I, J, x) = some (if alF T (stt T N p) i q k then 1 else 0, (S0, I, J, x)) := by
        intro q
        induction q with
        | zero =>
          intro fu k a1 a2
          obtain ⟨fu, rfl⟩ : ∃ z, fu = z + 1 := ⟨fu - 1, by omega⟩
          rw [bb_X12_isWord_32, s_rs hi, ob_s, s_len hi, ob_s, if_pos (by rw [li_le (by omega) (by omega)]; omega)]
          rfl
        | succ q ih =>
          intro fu k a1 a2
          obtain ⟨fu, rfl⟩ : ∃ z, fu = z + 2 := ⟨fu - 2, by omega⟩
          have hk : stt T N p + k < N := by omega
          rw [bb_X12_isWord_32, s_rs hi, ob_s, s_len hi, ob_s, if_neg (by rw [li_le (by omega) (by omega)]; omega), if_neg n10, m_R9, ob_s, m_F12, ob_s, e12, li_add, op_ld sh_207 rfl (by omega) (by omega), ob_s, hT _ hk, ob_s, s_char hi (by omega), ob_s, alF]
          dsimp only
          by_cases c : T (stt T N p + k) = wc i k
          · rw [if_pos c, if_pos c, bb_X12_isWord_68, nI_1]
            exact ih (fu + 1) (k + 1) (by omega) (by omega)
          · rw [if_neg c, if_neg c, bb_X12_isWord_68, bb_X12_isWord_32, s_rs hi, ob_s, s_len hi, ob_s]
            split <;> rfl
      exact loop (wl i).length ab_fu 0 (by omega) (ab_fu_big (by omega))
    · rw [if_neg (by dsimp only; rw [li_eq (by omega) (by omega)]; exact c2), if_neg c2]
      exact zero 999999
  · rw [if_neg (by rw [k1]; exact c1)]
    unfold isW
    rw [if_neg c1]
    exact zero 999999
theorem c_number (h : tkC I T N p) : dd_X7_number 1 (S0, I, J, x) = some (vlN T N p, (S0, I, J, x)) := by
  obtain ⟨⟨h8, h5, hT⟩, hp, e6, e7, e8⟩ := h
  have hst := stt_le (T := T) hp
  have hnx := nxt_le (T := T) hp
  have loop : ∀ (q fu k : Nat), k + q = nxt T N p - stt T N p → q < fu → bb_X7_number_11 fu 1 (nf T (stt T N p) k) (nI (stt T N p + k)) (S0, I, J, x) = some (vlN T N p, (S0, I, J, x)) := by
    intro q
    induction q with
    | zero =>
      intro fu k a1 a2
      obtain ⟨fu, rfl⟩ : ∃ z, fu = z + 1 := ⟨fu - 1, by omega⟩
      rw [bb_X7_number_11, r_f6, ob_s, e6, if_pos (by rw [li_le (by omega) (by omega)]; omega)]
      unfold vlN
      rw [show nxt T N p - stt T N p = k by omega]
      rfl
    | succ q ih =>
      intro fu k a1 a2
      obtain ⟨fu, rfl⟩ : ∃ z, fu = z + 1 := ⟨fu - 1, by omega⟩
      rw [bb_X7_number_11, r_f6, ob_s, e6, if_neg (by rw [li_le (by omega) (by omega)]; omega), r_f0, ob_s, op_len sh_2, ob_s, if_neg (by rw [li_le (by omega) (by omega)]; omega), ob_s, op_ld sh_2 rfl (by omega) (by omega), ob_s, (hT _ (show stt T N p + k < N by omega)).1, nI_1]
      exact ih fu (k + 1) (by omega) (by omega)
  have e : (if (0 : Int32) < nI (stt T N p) then nI (stt T N p) else 0) = nI (stt T N p) := by
    by_cases c : stt T N p = 0
    · rw [c]; rfl
    · rw [if_pos (by rw [li_0, li_lt (by omega) (by omega)]; omega)]
  unfold dd_X7_number
  rw [r_f7, ob_s, e7, e]
  exact loop (nxt T N p - stt T N p) ab_fu 0 (by omega) (ab_fu_big (by omega))
theorem m_signHere (h : tkM I T N p) (c : Int32) : dd_X12_isSignHere 200 c (S0, I, J, x) = some (if tk T N p = 4 ∧ T (stt T N p) = c then 1 else 0, (S0, I, J, x)) := by
  obtain ⟨_, hp, e12, e13, e14, e2, e4⟩ := h
  unfold dd_X12_isSignHere
  rw [m_F14, ob_s, e14]
  by_cases h4 : tk T N p = 4
  · rw [if_pos (by rw [kdM_sg]; exact h4), m_F15, ob_s, e4 h4]
    by_cases hc : T (stt T N p) = c
    · rw [if_pos hc, if_pos ⟨h4, hc⟩]; rfl
    · rw [if_neg hc, if_neg (fun z => hc z.2)]; rfl
  · rw [if_neg (by rw [kdM_sg]; exact h4), if_neg (fun z => h4 z.1)]; rfl
end WD
