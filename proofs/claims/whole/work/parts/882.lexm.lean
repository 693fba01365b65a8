/-! ===== tokens: the reference ===== -/
theorem b8 {t : Int32} (h : -128 ≤ t.toInt ∧ t.toInt ≤ 127) : ((t &&& 255 = 32) = (t = 32)) ∧ ((t &&& 255 = 10) = (t = 10)) ∧ ((sor t = 5) = (t = 32 ∨ t = 10)) ∧ ((t &&& 255) ≠ -1) ∧ wi (t &&& 255).toInt64 97 122 = decide (sor t = 1) ∧ wi (t &&& 255).toInt64 48 57 = decide (sor t = 2) ∧ (sor t = 2 → t &&& 255 = t) ∧ (sor t = 4 → t &&& 255 = t) ∧ sgB (t &&& 255) = decide (sor t = 4) := by
  obtain ⟨k, hk, rfl⟩ := by8_ex h
  have a := by8_all k hk
  exact ⟨a.1, a.2.1, a.2.2.1, a.2.2.2.1, a.2.2.2.2.1, a.2.2.2.2.2.1, a.2.2.2.2.2.2.1, a.2.2.2.2.2.2.2, by8_sg k hk⟩
section LM
variable {I I' I0 I1 I2 I3 I4 : Nat → Nat → Int32} {J J' J1 J2 J3 J4 : Nat → Nat → Int64} {x : Nat} {T : Nat → Int32} {N p : Nat}
theorem m_F11 : ab_fI (S0, I, J, x) 12 200 11 = some (I 200 11) := fI_X12_11 okM
theorem m_F12 : ab_fI (S0, I, J, x) 12 200 12 = some (I 200 12) := fI_X12_12 okM
theorem m_F13 : ab_fI (S0, I, J, x) 12 200 13 = some (I 200 13) := fI_X12_13 okM
theorem m_F14 : ab_fI (S0, I, J, x) 12 200 14 = some (I 200 14) := fI_X12_14 okM
theorem m_F15 : ab_fI (S0, I, J, x) 12 200 15 = some (I 200 15) := fI_X12_15 okM
theorem m_P12 (v : Int32) : ab_pI (S0, I, J, x) 12 200 12 v = some (S0, ab_u I 200 12 v, J, x) := pI_X12_12 okM v
theorem m_P13 (v : Int32) : ab_pI (S0, I, J, x) 12 200 13 v = some (S0, ab_u I 200 13 v, J, x) := pI_X12_13 okM v
theorem m_P14 (v : Int32) : ab_pI (S0, I, J, x) 12 200 14 v = some (S0, ab_u I 200 14 v, J, x) := pI_X12_14 okM v
theorem m_P15 (v : Int32) : ab_pI (S0, I, J, x) 12 200 15 v = some (S0, ab_u I 200 15 v, J, x) := pI_X12_15 okM v
/-- the reference's text -/
def txM (I : Nat → Nat → Int32) (T : Nat → Int32) (N : Nat) : Prop := N ≤ 800 ∧ rgT T N ∧ I 200 11 = nI N ∧ ∀ k, k < N → I 209 k = T k
/-- only the token has changed -/
def adM (I I' : Nat → Nat → Int32) : Prop := (∀ r, r ≠ 200 → I' r = I r) ∧ ∀ k, k < 12 ∨ 16 ≤ k → I' 200 k = I 200 k
theorem adM_refl (I : Nat → Nat → Int32) : adM I I := ⟨fun _ _ => rfl, fun _ _ => rfl⟩
theorem adM_u (h : adM I I1) {k : Nat} (v : Int32) (h1 : 12 ≤ k) (h2 : k < 16) : adM I (ab_u I1 200 k v) := ⟨fun r hr => by rw [u_r hr]; exact h.1 r hr, fun j hj => by rw [u_k (by omega)]; exact h.2 j hj⟩
theorem txM_ad (h : txM I T N) (a : adM I I1) : txM I1 T N := ⟨h.1, h.2.1, by rw [a.2 11 (by omega)]; exact h.2.2.1, fun k hk => by rw [a.1 209 (by omega)]; exact h.2.2.2 k hk⟩
theorem m_byteAt (h : txM I T N) {q : Nat} (hq : q < 2 ^ 31) : dd_X12_byteAt 200 (nI q) (S0, I, J, x) = some (if N ≤ q then -1 else T q &&& 255, (S0, I, J, x)) := by
  obtain ⟨h8, hr, h11, hT⟩ := h
  unfold dd_X12_byteAt
  rw [m_F11, ob_s, h11]
  by_cases c : N ≤ q
  · rw [if_pos (by rw [li_le (by omega) (by omega)]; exact c), if_pos c]; rfl
  · rw [if_neg (by rw [li_le (by omega) (by omega)]; exact c), if_neg c, m_R9, ob_s, op_ld sh_207 rfl (by omega) (by omega), ob_s, hT q (by omega)]; rfl
/-- the reference's token -/
def tkM (I : Nat → Nat → Int32) (T : Nat → Int32) (N p : Nat) : Prop := txM I T N ∧ p ≤ N ∧ I 200 12 = nI (stt T N p) ∧ I 200 13 = nI (nxt T N p) ∧ I 200 14 = kdM T N p ∧ (tk T N p = 2 → I 200 15 = vlN T N p) ∧ (tk T N p = 4 → I 200 15 = T (stt T N p))
theorem m_skip (h : txM I T N) : ∀ (k fu q : Nat) (I1 : Nat → Nat → Int32), q + k = N → k + 1 < fu → adM I I1 → I1 200 13 = nI q → ∃ fu' I2, adM I I2 ∧ I2 200 13 = nI (rE T 5 k q) ∧ bb_X12_advance_0 fu 200 (S0, I1, J, x) = bb_X12_advance_0 (fu' + 1) 200 (S0, I2, J, x) := by
  intro k
  induction k with
  | zero =>
    intro fu q I1 e1 e2 a e13
    obtain ⟨fu, rfl⟩ : ∃ z, fu = z + 1 := ⟨fu - 1, by omega⟩
    exact ⟨fu, I1, a, e13, rfl⟩
  | succ k ih =>
    intro fu q I1 e1 e2 a e13
    obtain ⟨fu, rfl⟩ : ∃ z, fu = z + 1 := ⟨fu - 1, by omega⟩
    have h1 := txM_ad h a
    have hN := h.1
    have b := b8 (h.2.1 q (by omega))
    have by1 := m_byteAt (J := J) (x := x) h1 (show q < 2 ^ 31 by omega)
    rw [if_neg (by omega)] at by1
    rw [rE]
    by_cases c : sor (T q) = 5
    · rw [if_pos c]
      have go : bb_X12_advance_0 (fu + 1) 200 (S0, I1, J, x) = bb_X12_advance_0 fu 200 (S0, ab_u I1 200 13 (nI (q + 1)), J, x) := by
        rw [bb_X12_advance_0, m_F13, ob_s, m_rc, ob_s, e13, by1, ob_s]
        dsimp only
        have c2 := c
        rw [b.2.2.1] at c2
        by_cases c3 : T q = 32
        · rw [if_pos (by rw [b.1]; exact c3), bb_X12_advance_26, m_F13, ob_s, e13, nI_1, m_P13, ob_s]
        · have c4 : T q = 10 := by
            rcases c2 with z | z
            · exact absurd z c3
            · exact z
          rw [if_neg (by rw [b.1]; exact c3), m_F13, ob_s, m_rc, ob_s, e13, by1, ob_s]
          dsimp only
          rw [if_pos (by rw [b.2.1]; exact c4), bb_X12_advance_26, m_F13, ob_s, e13, nI_1, m_P13, ob_s]
      obtain ⟨fu', I2, r1, r2, r3⟩ := ih fu (q + 1) _ (by omega) (by omega) (adM_u a (nI (q + 1)) (by omega) (by omega)) u_e
      exact ⟨fu', I2, r1, r2, go.trans r3⟩
    · rw [if_neg c]
      exact ⟨fu, I1, a, e13, rfl⟩
theorem m_letters (h : txM I T N) {st : Nat} (hst : st ≤ N) : ∀ (k fu q : Nat) (I1 : Nat → Nat → Int32), q + k = N → k + 1 < fu → st ≤ q → adM I I1 → I1 200 12 = nI st → I1 200 13 = nI q → ∃ I2, bb_X12_advance_88 fu 200 (S0, I1, J, x) = some ((), (S0, I2, J, x)) ∧ adM I I2 ∧ I2 200 12 = nI st ∧ I2 200 13 = nI (rE T 1 k q) ∧ I2 200 14 = (if rE T 1 k q - st ≤ 8 then 1 else 4) := by
  have stop : ∀ (fu q : Nat) (I1 : Nat → Nat → Int32), st ≤ q → q ≤ N → adM I I1 → I1 200 12 = nI st → I1 200 13 = nI q → (q < N → sor (T q) ≠ 1) → ∃ I2, bb_X12_advance_88 (fu + 1) 200 (S0, I1, J, x) = some ((), (S0, I2, J, x)) ∧ adM I I2 ∧ I2 200 12 = nI st ∧ I2 200 13 = nI q ∧ I2 200 14 = (if q - st ≤ 8 then 1 else 4) := by
    intro fu q I1 hq hqN a e12 e13 hs
    have h1 := txM_ad h a
    have hN := h.1
    have by1 := m_byteAt (J := J) (x := x) h1 (show q < 2 ^ 31 by omega)
    have hw : dd_X12_within (if N ≤ q then (-1 : Int32) else T q &&& 255).toInt64 97 122 (S0, I1, J, x) = some (0, (S0, I1, J, x)) := by
      rw [m_within]
      by_cases c : N ≤ q
      · rw [if_pos c]; rfl
      · have b := b8 (h.2.1 q (by omega))
        rw [if_neg c, b.2.2.2.2.1]
        simp [hs (by omega)]
    rw [bb_X12_advance_88, m_F13, ob_s, m_rc, ob_s, e13, by1, ob_s]
    dsimp only
    rw [hw, ob_s, if_pos rfl, m_F13, ob_s, m_F12, ob_s, e12, e13, pk_sub hq]
    by_cases c : q - st ≤ 8
    · rw [if_pos (show nI (q - st) ≤ 8 by rw [li_n 8, li_le (by omega) (by omega)]; exact c), if_pos c, bb_X12_advance_142, m_P14, ob_s]
      exact ⟨_, rfl, adM_u a _ (by omega) (by omega), by rw [u_k (by omega)]; exact e12, by rw [u_k (by omega)]; exact e13, u_e⟩
    · rw [if_neg (show ¬ nI (q - st) ≤ 8 by rw [li_n 8, li_le (by omega) (by omega)]; exact c), if_neg c, bb_X12_advance_142, m_P14, ob_s]
      exact ⟨_, rfl, adM_u a _ (by omega) (by omega), by rw [u_k (by omega)]; exact e12, by rw [u_k (by omega)]; exact e13, u_e⟩
  intro k
  induction k with
  | zero =>
    intro fu q I1 e1 e2 hq a e12 e13
    obtain ⟨fu, rfl⟩ : ∃ z, fu = z + 1 := ⟨fu - 1, by omega⟩
    exact stop fu q I1 hq (by omega) a e12 e13 (fun z => by omega)
  | succ k ih =>
    intro fu q I1 e1 e2 hq a e12 e13
    obtain ⟨fu, rfl⟩ : ∃ z, fu = z + 1 := ⟨fu - 1, by omega⟩
    rw [rE]
    by_cases c : sor (T q) = 1
    · rw [if_pos c]
      have h1 := txM_ad h a
      have hN := h.1
      have b := b8 (h.2.1 q (by omega))
      have by1 := m_byteAt (J := J) (x := x) h1 (show q < 2 ^ 31 by omega)
      rw [if_neg (by omega)] at by1
      have hw : dd_X12_within (T q &&& 255).toInt64 97 122 (S0, I1, J, x) = some (1, (S0, I1, J, x)) := by
        rw [m_within, b.2.2.2.2.1]
        simp [c]
      have go : bb_X12_advance_88 (fu + 1) 200 (S0, I1, J, x) = bb_X12_advance_88 fu 200 (S0, ab_u I1 200 13 (nI (q + 1)), J, x) := by
        rw [bb_X12_advance_88, m_F13, ob_s, m_rc, ob_s, e13, by1, ob_s]
        dsimp only
        rw [hw, ob_s, if_neg n10, m_F13, ob_s, e13, nI_1, m_P13, ob_s]
      rw [go]
      exact ih fu (q + 1) _ (by omega) (by omega) (by omega) (adM_u a _ (by omega) (by omega)) (by rw [u_k (by omega)]; exact e12) u_e
    · rw [if_neg c]
      exact stop fu q I1 hq (by omega) a e12 e13 (fun _ => c)
theorem m_digits (h : txM I T N) {st : Nat} (hst : st ≤ N) : ∀ (k fu q : Nat) (I1 : Nat → Nat → Int32), q + k = N → k + 1 < fu → st ≤ q → adM I I1 → I1 200 12 = nI st → I1 200 13 = nI q → (q - st ≤ 4 → I1 200 15 = nf T st (q - st)) → ∃ I2, bb_X12_advance_162 fu 200 (S0, I1, J, x) = some ((), (S0, I2, J, x)) ∧ adM I I2 ∧ I2 200 12 = nI st ∧ I2 200 13 = nI (rE T 2 k q) ∧ I2 200 14 = (if rE T 2 k q - st ≤ 4 then 2 else 4) ∧ (rE T 2 k q - st ≤ 4 → I2 200 15 = nf T st (rE T 2 k q - st)) := by
  have stop : ∀ (fu q : Nat) (I1 : Nat → Nat → Int32), st ≤ q → q ≤ N → adM I I1 → I1 200 12 = nI st → I1 200 13 = nI q → (q - st ≤ 4 → I1 200 15 = nf T st (q - st)) → (q < N → sor (T q) ≠ 2) → ∃ I2, bb_X12_advance_162 (fu + 1) 200 (S0, I1, J, x) = some ((), (S0, I2, J, x)) ∧ adM I I2 ∧ I2 200 12 = nI st ∧ I2 200 13 = nI q ∧ I2 200 14 = (if q - st ≤ 4 then 2 else 4) ∧ (q - st ≤ 4 → I2 200 15 = nf T st (q - st)) := by
    intro fu q I1 hq hqN a e12 e13 e15 hs
    have h1 := txM_ad h a
    have hN := h.1
    have by1 := m_byteAt (J := J) (x := x) h1 (show q < 2 ^ 31 by omega)
    have hw : dd_X12_within (if N ≤ q then (-1 : Int32) else T q &&& 255).toInt64 48 57 (S0, I1, J, x) = some (0, (S0, I1, J, x)) := by
      rw [m_within]
      by_cases c : N ≤ q
      · rw [if_pos c]; rfl
      · have b := b8 (h.2.1 q (by omega))
        rw [if_neg c, b.2.2.2.2.2.1]
        simp [hs (by omega)]
    rw [bb_X12_advance_162, m_F13, ob_s, m_rc, ob_s, e13, by1, ob_s]
    dsimp only
    rw [hw, ob_s, if_pos rfl, m_F13, ob_s, m_F12, ob_s, e12, e13, pk_sub hq]
    by_cases c : q - st ≤ 4
    · rw [if_pos (show nI (q - st) ≤ 4 by rw [li_n 4, li_le (by omega) (by omega)]; exact c), if_pos c, bb_X12_advance_258, m_P14, ob_s]
      exact ⟨_, rfl, adM_u a _ (by omega) (by omega), by rw [u_k (by omega)]; exact e12, by rw [u_k (by omega)]; exact e13, u_e, fun z => by rw [u_k (by omega)]; exact e15 z⟩
    · rw [if_neg (show ¬ nI (q - st) ≤ 4 by rw [li_n 4, li_le (by omega) (by omega)]; exact c), if_neg c, bb_X12_advance_258, m_P14, ob_s]
      exact ⟨_, rfl, adM_u a _ (by omega) (by omega), by rw [u_k (by omega)]; exact e12, by rw [u_k (by omega)]; exact e13, u_e, fun z => absurd z c⟩
  intro k
  induction k with
  | zero =>
    intro fu q I1 e1 e2 hq a e12 e13 e15
    obtain ⟨fu, rfl⟩ : ∃ z, fu = z + 1 := ⟨fu - 1, by omega⟩
    exact stop fu q I1 hq (by omega) a e12 e13 e15 (fun z => by omega)
  | succ k ih =>
    intro fu q I1 e1 e2 hq a e12 e13 e15
    obtain ⟨fu, rfl⟩ : ∃ z, fu = z + 1 := ⟨fu - 1, by omega⟩
    rw [rE]
    by_cases c : sor (T q) = 2
    · rw [if_pos c]
      have h1 := txM_ad h a
      have hN := h.1
      have b := b8 (h.2.1 q (by omega))
      have by1 := m_byteAt (J := J) (x := x) h1 (show q < 2 ^ 31 by omega)
      rw [if_neg (by omega), b.2.2.2.2.2.2.1 c] at by1
      have hw : dd_X12_within (T q).toInt64 48 57 (S0, I1, J, x) = some (1, (S0, I1, J, x)) := by
        have := b.2.2.2.2.2.1
        rw [b.2.2.2.2.2.2.1 c] at this
        rw [m_within, this]
        simp [c]
      have go : ∃ v, (q + 1 - st ≤ 4 → v = nf T st (q + 1 - st)) ∧ bb_X12_advance_162 (fu + 1) 200 (S0, I1, J, x) = bb_X12_advance_162 fu 200 (S0, ab_u (ab_u I1 200 15 v) 200 13 (nI (q + 1)), J, x) := by
        have e13b : ∀ v, ab_u I1 200 15 v 200 13 = nI q := fun v => by rw [u_k (by omega)]; exact e13
        by_cases c4 : 4 ≤ q - st
        · refine ⟨I1 200 15, fun z => by omega, ?_⟩
          rw [bb_X12_advance_162, m_F13, ob_s, m_rc, ob_s, e13, by1, ob_s]
          dsimp only
          rw [hw, ob_s, if_neg n10, m_F13, ob_s, m_F12, ob_s, e12, e13, pk_sub hq, if_pos (show (4 : Int32) ≤ nI (q - st) by rw [li_n 4, li_le (by omega) (by omega)]; exact c4), m_F15, ob_s, bb_X12_advance_223, m_P15, ob_s, m_F13, ob_s, e13b, nI_1, m_P13, ob_s]
        · refine ⟨10 * I1 200 15 + T q - 48, fun z => ?_, ?_⟩
          · rw [e15 (by omega), show q + 1 - st = (q - st) + 1 by omega, nf, show st + (q - st) = q by omega, Int32.mul_comm 10]
          · rw [bb_X12_advance_162, m_F13, ob_s, m_rc, ob_s, e13, by1, ob_s]
            dsimp only
            rw [hw, ob_s, if_neg n10, m_F13, ob_s, m_F12, ob_s, e12, e13, pk_sub hq, if_neg (show ¬ (4 : Int32) ≤ nI (q - st) by rw [li_n 4, li_le (by omega) (by omega)]; exact c4), m_F15, ob_s, ob_s, m_rc, ob_s, by1, ob_s, bb_X12_advance_223, m_P15, ob_s, m_F13, ob_s, e13b, nI_1, m_P13, ob_s]
      obtain ⟨v, hv, go⟩ := go
      rw [go]
      exact ih fu (q + 1) _ (by omega) (by omega) (by omega) (adM_u (adM_u a _ (by omega) (by omega)) _ (by omega) (by omega)) (by rw [u_k (by omega), u_k (by omega)]; exact e12) u_e (fun z => by rw [u_k (by omega), u_e]; exact hv z)
    · rw [if_neg c]
      exact stop fu q I1 hq (by omega) a e12 e13 e15 (fun _ => c)
theorem m_adv (h : txM I T N) {p : Nat} (hp : p ≤ N) (h13 : I 200 13 = nI p) : ∃ I', dd_X12_advance 200 (S0, I, J, x) = some ((), (S0, I', J, x)) ∧ adM I I' ∧ tkM I' T N p := by
  have hN := h.1
  have hst := stt_le (T := T) hp
  obtain ⟨fu, I1, a1, e1, g1⟩ := @m_skip I J x T N h (N - p) ab_fu p I (by omega) (ab_fu_big (by omega)) (adM_refl I) h13
  have e1' : I1 200 13 = nI (stt T N p) := e1
  have h1 := txM_ad h a1
  have a3 : adM I (ab_u (ab_u I1 200 12 (nI (stt T N p))) 200 15 0) := adM_u (adM_u a1 _ (by omega) (by omega)) _ (by omega) (by omega)
  have e12 : ab_u (ab_u I1 200 12 (nI (stt T N p))) 200 15 0 200 12 = nI (stt T N p) := by rw [u_k (by omega), u_e]
  have e13 : ab_u (ab_u I1 200 12 (nI (stt T N p))) 200 15 0 200 13 = nI (stt T N p) := by rw [u_k (by omega), u_k (by omega)]; exact e1'
  have e15 : ab_u (ab_u I1 200 12 (nI (stt T N p))) 200 15 0 200 15 = 0 := u_e
  have h3 := txM_ad h a3
  have by1 := m_byteAt (J := J) (x := x) h1 (show stt T N p < 2 ^ 31 by omega)
  have by3 := m_byteAt (J := J) (x := x) h3 (show stt T N p < 2 ^ 31 by omega)
  have nb : ∀ c : Int32, c = 32 ∨ c = 10 → ¬ (if N ≤ stt T N p then (-1 : Int32) else T (stt T N p) &&& 255) = c := by
    intro c hc
    by_cases q : N ≤ stt T N p
    · rw [if_pos q]
      rcases hc with z | z <;> rw [z] <;> decide
    · have b := b8 (h.2.1 _ (show stt T N p < N by omega))
      have ne : ¬ sor (T (stt T N p)) = 5 := rE_out (T := T) (s := 5) (k := N - p) (p := p) (by show stt T N p < p + (N - p); omega)
      rw [b.2.2.1] at ne
      rw [if_neg q]
      rcases hc with z | z
      · rw [z, b.1]; exact fun y => ne (Or.inl y)
      · rw [z, b.2.1]; exact fun y => ne (Or.inr y)
  have head : dd_X12_advance 200 (S0, I, J, x) = (if (if N ≤ stt T N p then (-1 : Int32) else T (stt T N p) &&& 255) = (-1 : Int32) then
          (ab_pI (S0, ab_u (ab_u I1 200 12 (nI (stt T N p))) 200 15 0, J, x) 12 200 14 (0 : Int32)).bind fun m16 =>
          bb_X12_advance_295 m16
        else
          (dd_X12_within (if N ≤ stt T N p then (-1 : Int32) else T (stt T N p) &&& 255).toInt64 (97 : Int64) (122 : Int64) (S0, ab_u (ab_u I1 200 12 (nI (stt T N p))) 200 15 0, J, x)).bind fun q10 =>
          if q10.1 = 0 then
            (dd_X12_within (if N ≤ stt T N p then (-1 : Int32) else T (stt T N p) &&& 255).toInt64 (48 : Int64) (57 : Int64) q10.2).bind fun q11 =>
            if q11.1 = 0 then
              (ab_fI q11.2 12 200 13).bind fun v12 =>
              (ab_pI q11.2 12 200 13 (v12 + (1 : Int32))).bind fun m13 =>
              (ab_pI m13 12 200 15 (if N ≤ stt T N p then (-1 : Int32) else T (stt T N p) &&& 255)).bind fun m14 =>
              (dd_X12_isSign (if N ≤ stt T N p then (-1 : Int32) else T (stt T N p) &&& 255) m14).bind fun q15 =>
              if q15.1 = 0 then
                bb_X12_advance_292 200 (4 : Int32) q15.2
              else
                bb_X12_advance_292 200 (3 : Int32) q15.2
            else
              bb_X12_advance_162 ab_fu 200 q11.2
          else
            bb_X12_advance_88 ab_fu 200 q10.2) := by
    refine g1.trans ?_
    rw [bb_X12_advance_0, m_F13, ob_s, m_rc, ob_s, e1', by1, ob_s]
    dsimp only
    rw [if_neg (nb 32 (Or.inl rfl)), m_F13, ob_s, m_rc, ob_s, e1', by1, ob_s]
    dsimp only
    rw [if_neg (nb 10 (Or.inr rfl)), m_F13, ob_s, e1', m_P12, ob_s, m_P15, ob_s, m_F13, ob_s, m_rc, ob_s, e13, by3, ob_s]
  rw [head]
  by_cases c : N ≤ stt T N p
  · have es : stt T N p = N := by omega
    have en : nxt T N p = N := by unfold nxt; rw [if_pos c]
    have et : tk T N p = 0 := by unfold tk; rw [if_pos c]
    have ek : kdM T N p = 0 := by unfold kdM; rw [et]; rfl
    rw [if_pos c, if_pos rfl, m_P14, ob_s]
    exact ⟨_, rfl, adM_u a3 _ (by omega) (by omega), txM_ad h (adM_u a3 _ (by omega) (by omega)), hp, by rw [u_k (by omega)]; exact e12, by rw [u_k (by omega), e13, en, es], by rw [u_e, ek], fun z => by omega, fun z => by omega⟩
  · have hlt : stt T N p < N := by omega
    have b := b8 (h.2.1 _ hlt)
    rw [if_neg c, if_neg b.2.2.2.1, m_within, ob_s, b.2.2.2.2.1]
    by_cases c1 : sor (T (stt T N p)) = 1
    · have en : nxt T N p = rE T 1 (N - stt T N p) (stt T N p) := by unfold nxt; rw [if_neg c, if_pos c1]
      have et : tk T N p = (if nxt T N p - stt T N p ≤ 8 then 1 else 3) := by unfold tk; rw [if_neg c, if_pos c1]
      rw [c1]
      simp only [decide_true, if_true]
      rw [if_neg n10]
      obtain ⟨I2, r1, r2, r3, r4, r5⟩ := @m_letters I J x T N h (stt T N p) hst.2 (N - stt T N p) ab_fu (stt T N p) _ (by omega) (ab_fu_big (by omega)) (by omega) a3 e12 e13
      rw [← en] at r4 r5
      refine ⟨I2, r1, r2, txM_ad h r2, hp, r3, r4, ?_, fun z => ?_, fun z => ?_⟩
      · rw [r5]
        unfold kdM
        rw [et]
        split <;> rfl
      · rw [et] at z; split at z <;> omega
      · rw [et] at z; split at z <;> omega
    · rw [show decide (sor (T (stt T N p)) = 1) = false from by simp [c1]]
      simp only [Bool.false_eq_true, if_false, if_true]
      rw [m_within, ob_s, b.2.2.2.2.2.1]
      by_cases c2 : sor (T (stt T N p)) = 2
      · have en : nxt T N p = rE T 2 (N - stt T N p) (stt T N p) := by unfold nxt; rw [if_neg c, if_neg c1, if_pos c2]
        have et : tk T N p = (if nxt T N p - stt T N p ≤ 4 then 2 else 3) := by unfold tk; rw [if_neg c, if_neg c1, if_pos c2]
        rw [c2]
        simp only [decide_true, if_true]
        rw [if_neg n10]
        obtain ⟨I2, r1, r2, r3, r4, r5, r6⟩ := @m_digits I J x T N h (stt T N p) hst.2 (N - stt T N p) ab_fu (stt T N p) _ (by omega) (ab_fu_big (by omega)) (by omega) a3 e12 e13 (fun _ => by rw [e15, Nat.sub_self]; rfl)
        rw [← en] at r4 r5 r6
        refine ⟨I2, r1, r2, txM_ad h r2, hp, r3, r4, ?_, fun z => ?_, fun z => ?_⟩
        · rw [r5]
          unfold kdM
          rw [et]
          split <;> rfl
        · rw [et] at z
          split at z
          · rename_i c5; exact r6 c5
          · omega
        · rw [et] at z; split at z <;> omega
      · rw [show decide (sor (T (stt T N p)) = 2) = false from by simp [c2]]
        simp only [Bool.false_eq_true, if_false, if_true]
        have en : nxt T N p = stt T N p + 1 := by unfold nxt; rw [if_neg c, if_neg c1, if_neg c2]
        rw [m_F13, ob_s, e13, nI_1, m_P13, ob_s, m_P15, ob_s, sgB_is, ob_s, b.2.2.2.2.2.2.2.2]
        have a5 : ∀ v : Int32, adM I (ab_u (ab_u (ab_u (ab_u (ab_u I1 200 12 (nI (stt T N p))) 200 15 0) 200 13 (nI (stt T N p + 1))) 200 15 (T (stt T N p) &&& 255)) 200 14 v) := fun v => adM_u (adM_u (adM_u a3 _ (by omega) (by omega)) _ (by omega) (by omega)) _ (by omega) (by omega)
        by_cases c4 : sor (T (stt T N p)) = 4
        · have et : tk T N p = 4 := by unfold tk; rw [if_neg c, if_neg c1, if_neg c2, if_pos c4]
          have ek : kdM T N p = 3 := by unfold kdM; rw [if_pos et]
          rw [c4]
          simp only [decide_true, if_true]
          rw [if_neg n10, bb_X12_advance_292, m_P14, ob_s]
          exact ⟨_, rfl, a5 3, txM_ad h (a5 3), hp, by rw [u_k (by omega), u_k (by omega), u_k (by omega)]; exact e12, by rw [u_k (by omega), u_k (by omega), u_e, en], by rw [u_e, ek], fun z => by omega, fun _ => by rw [u_k (by omega), u_e]; exact b.2.2.2.2.2.2.2.1 c4⟩
        · have et : tk T N p = 3 := by unfold tk; rw [if_neg c, if_neg c1, if_neg c2, if_neg c4]
          have ek : kdM T N p = 4 := by unfold kdM; rw [et]; rfl
          rw [show decide (sor (T (stt T N p)) = 4) = false from by simp [c4]]
          simp only [Bool.false_eq_true, if_false, if_true]
          rw [bb_X12_advance_292, m_P14, ob_s]
          exact ⟨_, rfl, a5 4, txM_ad h (a5 4), hp, by rw [u_k (by omega), u_k (by omega), u_k (by omega)]; exact e12, by rw [u_k (by omega), u_k (by omega), u_e, en], by rw [u_e, ek], fun z => by omega, fun z => by omega⟩
end LM
