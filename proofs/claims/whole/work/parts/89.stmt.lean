/-! ===== all statements, and the text ===== -/
section TX
variable {I I' I0 I1 I2 I3 I4 M M' M0 M1 M2 : Nat → Nat → Int32} {J J' J1 J2 J3 J4 : Nat → Nat → Int64} {x x' : Nat} {T : Nat → Int32} {N p : Nat}
/-- a move -/
theorem L_move (h : STT T N p I0 M0 I M) (hw0 : isW T N p 0 = false) (hw1 : isW T N p 1 = false) (hw2 : isW T N p 2 = false) (hw3 : isW T N p 3 = false) (hw4 : isW T N p 4 = false) (hw5 : isW T N p 5 = false) (hw6 : isW T N p 6 = false) (hw7 : isW T N p 7 = true) {s : Nat} (hs : s < 16) (s1 : I 1 10 = nI s) (s2 : M 200 19 = nI s) : LK I0 M0 J x J' x' ((dd_X7_statement 1 (S0, I, J, x)).bind clC) ((dd_X12_statement 200 (S0, M, J', x')).bind clK) (fun I' M' => (∃ p', p < p' ∧ STT T N p' I0 M0 I' M') ∧ (∃ n, n ≤ 800 ∧ XP I' M' n 1) ∧ (∀ r, r ≠ 1 → r ≠ 15 → r ≠ 16 → I' r = I r) ∧ (∃ s', s' < 16 ∧ I' 1 10 = nI s' ∧ M' 200 19 = nI s') ∧ ∀ r, r ≠ 200 → r ≠ 207 → r ≠ 208 → M' r = M r) := by
  have cw : ∀ i, i < 24 → dd_X7_isWord 1 (1000 + 2 * i) (S0, I, J, x) = some (if isW T N p i then 1 else 0, (S0, I, J, x)) := fun i hi => c_isWord h.1 hi
  have mw : ∀ i, i < 12 → dd_X12_isWord 200 (1000 + 2 * (i + 12)) (S0, M, J', x') = some (if isW T N p i then 1 else 0, (S0, M, J', x')) := fun i hi => by
    have q := m_isWord (J := J') (x := x') h.2.1 (i := i + 12) (by omega)
    rw [isW_12 hi] at q; exact q
  have c0 : dd_X7_isWord 1 1000 (S0, I, J, x) = some (0, (S0, I, J, x)) := by have q := cw 0 (by omega); rw [hw0] at q; exact q
  have c1 : dd_X7_isWord 1 1002 (S0, I, J, x) = some (0, (S0, I, J, x)) := by have q := cw 1 (by omega); rw [hw1] at q; exact q
  have c2 : dd_X7_isWord 1 1004 (S0, I, J, x) = some (0, (S0, I, J, x)) := by have q := cw 2 (by omega); rw [hw2] at q; exact q
  have c3 : dd_X7_isWord 1 1006 (S0, I, J, x) = some (0, (S0, I, J, x)) := by have q := cw 3 (by omega); rw [hw3] at q; exact q
  have c4 : dd_X7_isWord 1 1008 (S0, I, J, x) = some (0, (S0, I, J, x)) := by have q := cw 4 (by omega); rw [hw4] at q; exact q
  have c5 : dd_X7_isWord 1 1010 (S0, I, J, x) = some (0, (S0, I, J, x)) := by have q := cw 5 (by omega); rw [hw5] at q; exact q
  have c6 : dd_X7_isWord 1 1012 (S0, I, J, x) = some (0, (S0, I, J, x)) := by have q := cw 6 (by omega); rw [hw6] at q; exact q
  have c7 : dd_X7_isWord 1 1014 (S0, I, J, x) = some (1, (S0, I, J, x)) := by have q := cw 7 (by omega); rw [hw7] at q; exact q
  have m0 : dd_X12_isWord 200 1024 (S0, M, J', x') = some (0, (S0, M, J', x')) := by have q := mw 0 (by omega); rw [hw0] at q; exact q
  have m1 : dd_X12_isWord 200 1026 (S0, M, J', x') = some (0, (S0, M, J', x')) := by have q := mw 1 (by omega); rw [hw1] at q; exact q
  have m2 : dd_X12_isWord 200 1028 (S0, M, J', x') = some (0, (S0, M, J', x')) := by have q := mw 2 (by omega); rw [hw2] at q; exact q
  have m3 : dd_X12_isWord 200 1030 (S0, M, J', x') = some (0, (S0, M, J', x')) := by have q := mw 3 (by omega); rw [hw3] at q; exact q
  have m4 : dd_X12_isWord 200 1032 (S0, M, J', x') = some (0, (S0, M, J', x')) := by have q := mw 4 (by omega); rw [hw4] at q; exact q
  have m5 : dd_X12_isWord 200 1034 (S0, M, J', x') = some (0, (S0, M, J', x')) := by have q := mw 5 (by omega); rw [hw5] at q; exact q
  have m6 : dd_X12_isWord 200 1036 (S0, M, J', x') = some (0, (S0, M, J', x')) := by have q := mw 6 (by omega); rw [hw6] at q; exact q
  have m7 : dd_X12_isWord 200 1038 (S0, M, J', x') = some (1, (S0, M, J', x')) := by have q := mw 7 (by omega); rw [hw7] at q; exact q
  have htk : tk T N p ≠ 0 := by
    intro z
    unfold isW at hw7
    rw [if_neg (by omega)] at hw7
    cases hw7
  have hp := h.1.2.1
  have hpn := (nxt_le (T := T) hp).2.2 htk
  unfold dd_X7_statement dd_X12_statement
  rw [r_rc, ob_s, c0, ob_s, if_pos rfl, r_rc, ob_s, c1, ob_s, if_pos rfl, r_rc, ob_s, c2, ob_s, if_pos rfl, r_rc, ob_s, c3, ob_s, if_pos rfl, r_rc, ob_s, c4, ob_s, if_pos rfl, r_rc, ob_s, c5, ob_s, if_pos rfl, r_rc, ob_s, c6, ob_s, if_pos rfl, r_rc, ob_s, c7, ob_s, if_neg n10, r_s2, ob_s, d3_s5, ob_s, rc_X9 okS14, ob_s]
  rw [m_rc, ob_s, m0, ob_s, if_pos rfl, m_rc, ob_s, m1, ob_s, if_pos rfl, m_rc, ob_s, m2, ob_s, if_pos rfl, m_rc, ob_s, m3, ob_s, if_pos rfl, m_rc, ob_s, m4, ob_s, if_pos rfl, m_rc, ob_s, m5, ob_s, if_pos rfl, m_rc, ob_s, m6, ob_s, if_pos rfl, m_rc, ob_s, m7, ob_s, if_neg n10, m_R7, ob_s]
  dsimp only
  have ecl : dd_X9_clear 15 (S0, I, J, x) = some ((), (S0, ab_u I 15 1 0, J, x)) := by
    unfold dd_X9_clear
    rw [pI_X9_1 okS14, ob_s]
  rw [ecl, ob_s, r_rc, ob_s, op_st _ sh_205 (li_n 1) (by omega) (by omega), ob_s, pI_X12_20 okM, ob_s, m_rc, ob_s]
  have h1 : STT T N p I0 M0 (ab_u I 15 1 0) (ab_u (ab_u M 207 1 0) 200 20 0) := STT_uM (STT_uM (STT_uC h _ (by omega)) _ (by omega)) _ (by omega)
  have badC : ∀ Ia : Nat → Nat → Int32, bb_X7_statement_426 (S0, Ia, J, x) = some (0, (S0, Ia, J, x)) := fun Ia => by rw [bb_X7_statement_426, bb_X7_statement_427, h01, if_neg (by simp)]
  have badM : ∀ Ma : Nat → Nat → Int32, bb_X12_statement_425 (S0, Ma, J', x') = some (0, (S0, Ma, J', x')) := fun Ma => by rw [bb_X12_statement_425, bb_X12_statement_426, h01, if_neg (by simp)]
  refine LK_bindB (L_first (b := 3) h1 (by omega) hs (by rw [u_r (by omega)]; exact s1) (by rw [u_k (by omega), u_r (by omega)]; exact s2) (li_n 8) (li_n 3)) (fun Ia => ?_) (fun Ma => ?_) (fun I2 M2 z2 => ?_)
  · dsimp only; rw [if_pos rfl, badC, ob_s]; exact clC0 Ia
  · dsimp only; rw [if_pos rfl, badM, ob_s]; exact clK0 Ma
  obtain ⟨z1, za, zb, zc, zd, ze⟩ := z2
  dsimp only
  rw [if_neg n10, r_rc, ob_s, if_neg n10, m_rc, ob_s]
  have e20 : M2 200 20 = nI 0 := by rw [ze, u_e]; rfl
  have x2 : XP I2 M2 0 0 := by
    refine ⟨?_, ?_, fun k hk => by omega, rfl⟩
    · rw [zc 15 (by omega), u_e]; rfl
    · rw [zd 207 (by omega), u_r (by omega), u_e]; rfl
  refine LK_bindB (L_sum30 (nxt T N p) I2 M2 0 0 0 z1 e20 x2 (by omega) (by omega)) (fun Ia => ?_) (fun Ma => ?_) (fun I3 M3 z3 => ?_)
  · dsimp only; rw [if_pos rfl, badC, ob_s]; exact clC0 Ia
  · dsimp only; rw [if_pos rfl, badM, ob_s]; exact clK0 Ma
  obtain ⟨p1, hp1, p2, n2, hp2, t1, t2, t3, t4, t5, t6⟩ := z3
  dsimp only
  rw [if_neg n10, bb_X7_statement_427, h11, if_neg (by simp), ob_s, clC1]
  rw [if_neg n10, bb_X12_statement_426, h11, if_neg (by simp), ob_s, clK1]
  refine LK_weak (L_sign t1 s59) (fun I4 M4 z4 => ?_)
  · obtain ⟨y1, _, y3, y5⟩ := z4
    have hp2N := t1.1.2.1
    have hN := t1.1.1.1
    have a2 := nxt_le (T := T) hp2N
    have b2 := stt_le (T := T) hp2N
    refine ⟨⟨_, by omega, y1⟩, ⟨n2, by omega, XP_sam t3 (y3.1 15 (by omega)) (y3.1 16 (by omega)) (y5.1 207 (by omega)) (y5.1 208 (by omega))⟩, fun r p1 p2 p3 => ?_, ⟨s ||| 2 ^ 3, (sn_all 3 (by omega) s hs).2.2.2, ?_, ?_⟩, fun r p1 p2 p3 => ?_⟩
    · rw [y3.1 r p1, t5.1 r p1 p2 p3, zc r p1, u_r p2]
    · rw [y3.2 10 (by omega) (by omega) (by omega), t5.2]; exact za
    · rw [y5.2 19 (by omega), t6.2]; exact zb
    · rw [y5.1 r p1, t6.1 r p1 p2 p3, zd r p1, u_r p1, u_r p2]
/-- the drafts belong together -/
def DRF (I M : Nat → Nat → Int32) : Prop := ∃ NH NY NE NR s, dH (I 5) (I 6) (M 203) (M 202 7) NH ∧ dY (I 7) (I 8) (M 204) (M 202 8) NY ∧ dE (I 9) (I 10) (M 205) (M 202 9) NE ∧ dV (I 11) (I 12) (M 206) (M 202 10) NY NE NR ∧ dS (I 13) (I 14) (M 202) ∧ (∃ n, n ≤ 800 ∧ XP I M n 1) ∧ s < 16 ∧ I 1 10 = nI s ∧ M 200 19 = nI s
theorem dS_sam {a b c a' b' c' : Nat → Int32} (h : dS a b c) (h1 : a' = a) (h2 : b' = b) (h3 : ∀ k, 11 ≤ k → k < 14 → c' k = c k) : dS a' b' c' := by
  unfold dS at h ⊢
  rw [h1, h2, h3 11 (by omega) (by omega), h3 12 (by omega) (by omega), h3 13 (by omega) (by omega)]
  exact h
theorem L_statement (h : STT T N p I0 M0 I M) (d : DRF I M) : LK I0 M0 J x J' x' ((dd_X7_statement 1 (S0, I, J, x)).bind clC) ((dd_X12_statement 200 (S0, M, J', x')).bind clK) (fun I' M' => (∃ p', p < p' ∧ STT T N p' I0 M0 I' M') ∧ DRF I' M') := by
  obtain ⟨NH, NY, NE, NR, s, d1, d2, d3, d4, d5, ⟨n, n8, d6⟩, d7, d8, d9⟩ := d
  cases hw0 : isW T N p 0 with
  | true =>
    refine LK_weak (L_host h hw0 d1) (fun I' M' z => ?_)
    obtain ⟨z1, z2, z3, z4, z5, z6, z7⟩ := z
    refine ⟨z1, NH + 1, NY, NE, NR, s, z2, ?_, ?_, ?_, ?_, ⟨n, n8, XP_sam d6 (z3 15 (by omega) (by omega) (by omega)) (z3 16 (by omega) (by omega) (by omega)) (z5 207 (by omega) (by omega) (by omega)) (z5 208 (by omega) (by omega) (by omega))⟩, d7, z4.trans d8, z7.trans d9⟩
    · rw [z3 7 (by omega) (by omega) (by omega), z3 8 (by omega) (by omega) (by omega), z5 204 (by omega) (by omega) (by omega), z6 8 (by omega)]; exact d2
    · rw [z3 9 (by omega) (by omega) (by omega), z3 10 (by omega) (by omega) (by omega), z5 205 (by omega) (by omega) (by omega), z6 9 (by omega)]; exact d3
    · rw [z3 11 (by omega) (by omega) (by omega), z3 12 (by omega) (by omega) (by omega), z5 206 (by omega) (by omega) (by omega), z6 10 (by omega)]; exact d4
    · exact dS_sam d5 (z3 13 (by omega) (by omega) (by omega)) (z3 14 (by omega) (by omega) (by omega)) (fun k a b => z6 k (by omega))
  | false =>
  cases hw1 : isW T N p 1 with
  | true =>
    refine LK_weak (L_type h hw0 hw1 d2) (fun I' M' z => ?_)
    obtain ⟨z1, z2, z3, z4, z5, z6, z7⟩ := z
    refine ⟨z1, NH, NY + 1, NE, NR, s, ?_, z2, ?_, ?_, ?_, ⟨n, n8, XP_sam d6 (z3 15 (by omega) (by omega) (by omega)) (z3 16 (by omega) (by omega) (by omega)) (z5 207 (by omega) (by omega) (by omega)) (z5 208 (by omega) (by omega) (by omega))⟩, d7, z4.trans d8, z7.trans d9⟩
    · rw [z3 5 (by omega) (by omega) (by omega), z3 6 (by omega) (by omega) (by omega), z5 203 (by omega) (by omega) (by omega), z6 7 (by omega)]; exact d1
    · rw [z3 9 (by omega) (by omega) (by omega), z3 10 (by omega) (by omega) (by omega), z5 205 (by omega) (by omega) (by omega), z6 9 (by omega)]; exact d3
    · rw [z3 11 (by omega) (by omega) (by omega), z3 12 (by omega) (by omega) (by omega), z5 206 (by omega) (by omega) (by omega), z6 10 (by omega)]; exact dV_mono d4 (by omega) (by omega)
    · exact dS_sam d5 (z3 13 (by omega) (by omega) (by omega)) (z3 14 (by omega) (by omega) (by omega)) (fun k a b => z6 k (by omega))
  | false =>
  cases hw2 : isW T N p 2 with
  | true =>
    refine LK_weak (L_tenant h hw0 hw1 hw2 d3) (fun I' M' z => ?_)
    obtain ⟨z1, z2, z3, z4, z5, z6, z7⟩ := z
    refine ⟨z1, NH, NY, NE + 1, NR, s, ?_, ?_, z2, ?_, ?_, ⟨n, n8, XP_sam d6 (z3 15 (by omega) (by omega) (by omega)) (z3 16 (by omega) (by omega) (by omega)) (z5 207 (by omega) (by omega) (by omega)) (z5 208 (by omega) (by omega) (by omega))⟩, d7, z4.trans d8, z7.trans d9⟩
    · rw [z3 5 (by omega) (by omega) (by omega), z3 6 (by omega) (by omega) (by omega), z5 203 (by omega) (by omega) (by omega), z6 7 (by omega)]; exact d1
    · rw [z3 7 (by omega) (by omega) (by omega), z3 8 (by omega) (by omega) (by omega), z5 204 (by omega) (by omega) (by omega), z6 8 (by omega)]; exact d2
    · rw [z3 11 (by omega) (by omega) (by omega), z3 12 (by omega) (by omega) (by omega), z5 206 (by omega) (by omega) (by omega), z6 10 (by omega)]; exact dV_mono d4 (by omega) (by omega)
    · exact dS_sam d5 (z3 13 (by omega) (by omega) (by omega)) (z3 14 (by omega) (by omega) (by omega)) (fun k a b => z6 k (by omega))
  | false =>
  cases hw3 : isW T N p 3 with
  | true =>
    refine LK_weak (L_res h hw0 hw1 hw2 hw3 ⟨d2.2.1, d2.2.2.1, d2.1⟩ ⟨d3.2.1, d3.2.2.1, d3.1⟩ d4) (fun I' M' z => ?_)
    obtain ⟨z1, z2, z3, z4, z5, z6, z7⟩ := z
    refine ⟨z1, NH, NY, NE, NR + 1, s, ?_, ?_, ?_, z2, ?_, ⟨n, n8, XP_sam d6 (z3 15 (by omega) (by omega) (by omega)) (z3 16 (by omega) (by omega) (by omega)) (z5 207 (by omega) (by omega) (by omega)) (z5 208 (by omega) (by omega) (by omega))⟩, d7, z4.trans d8, z7.trans d9⟩
    · rw [z3 5 (by omega) (by omega) (by omega), z3 6 (by omega) (by omega) (by omega), z5 203 (by omega) (by omega) (by omega), z6 7 (by omega)]; exact d1
    · rw [z3 7 (by omega) (by omega) (by omega), z3 8 (by omega) (by omega) (by omega), z5 204 (by omega) (by omega) (by omega), z6 8 (by omega)]; exact d2
    · rw [z3 9 (by omega) (by omega) (by omega), z3 10 (by omega) (by omega) (by omega), z5 205 (by omega) (by omega) (by omega), z6 9 (by omega)]; exact d3
    · exact dS_sam d5 (z3 13 (by omega) (by omega) (by omega)) (z3 14 (by omega) (by omega) (by omega)) (fun k a b => z6 k (by omega))
  | false =>
  have sett : ∀ I' M', ((∃ p', p < p' ∧ STT T N p' I0 M0 I' M') ∧ dS (I' 13) (I' 14) (M' 202) ∧ (∀ r, r ≠ 1 → r ≠ 14 → I' r = I r) ∧ (∃ s', s' < 16 ∧ I' 1 10 = nI s' ∧ M' 200 19 = nI s') ∧ (∀ r, r ≠ 200 → r ≠ 202 → M' r = M r) ∧ (∀ k, k < 11 → M' 202 k = M 202 k)) → (∃ p', p < p' ∧ STT T N p' I0 M0 I' M') ∧ DRF I' M' := by
    intro I' M' z
    obtain ⟨z1, z2, z3, ⟨s', e1, e2, e3⟩, z5, z6⟩ := z
    refine ⟨z1, NH, NY, NE, NR, s', ?_, ?_, ?_, ?_, z2, ⟨n, n8, XP_sam d6 (z3 15 (by omega) (by omega)) (z3 16 (by omega) (by omega)) (z5 207 (by omega) (by omega)) (z5 208 (by omega) (by omega))⟩, e1, e2, e3⟩
    · rw [z3 5 (by omega) (by omega), z3 6 (by omega) (by omega), z5 203 (by omega) (by omega), z6 7 (by omega)]; exact d1
    · rw [z3 7 (by omega) (by omega), z3 8 (by omega) (by omega), z5 204 (by omega) (by omega), z6 8 (by omega)]; exact d2
    · rw [z3 9 (by omega) (by omega), z3 10 (by omega) (by omega), z5 205 (by omega) (by omega), z6 9 (by omega)]; exact d3
    · rw [z3 11 (by omega) (by omega), z3 12 (by omega) (by omega), z5 206 (by omega) (by omega), z6 10 (by omega)]; exact d4
  cases hw4 : isW T N p 4 with
  | true => exact LK_weak (L_floor h hw0 hw1 hw2 hw3 hw4 d7 d8 d9 d5) sett
  | false =>
  cases hw5 : isW T N p 5 with
  | true => exact LK_weak (L_notice h hw0 hw1 hw2 hw3 hw4 hw5 d7 d8 d9 d5) sett
  | false =>
  cases hw6 : isW T N p 6 with
  | true => exact LK_weak (L_slope h hw0 hw1 hw2 hw3 hw4 hw5 hw6 d7 d8 d9 d5) sett
  | false =>
  cases hw7 : isW T N p 7 with
  | true =>
    refine LK_weak (L_move h hw0 hw1 hw2 hw3 hw4 hw5 hw6 hw7 d7 d8 d9) (fun I' M' z => ?_)
    obtain ⟨z1, z2, z3, ⟨s', e1, e2, e3⟩, z5⟩ := z
    refine ⟨z1, NH, NY, NE, NR, s', ?_, ?_, ?_, ?_, ?_, z2, e1, e2, e3⟩
    · rw [z3 5 (by omega) (by omega) (by omega), z3 6 (by omega) (by omega) (by omega), z5 203 (by omega) (by omega) (by omega), z5 202 (by omega) (by omega) (by omega)]; exact d1
    · rw [z3 7 (by omega) (by omega) (by omega), z3 8 (by omega) (by omega) (by omega), z5 204 (by omega) (by omega) (by omega), z5 202 (by omega) (by omega) (by omega)]; exact d2
    · rw [z3 9 (by omega) (by omega) (by omega), z3 10 (by omega) (by omega) (by omega), z5 205 (by omega) (by omega) (by omega), z5 202 (by omega) (by omega) (by omega)]; exact d3
    · rw [z3 11 (by omega) (by omega) (by omega), z3 12 (by omega) (by omega) (by omega), z5 206 (by omega) (by omega) (by omega), z5 202 (by omega) (by omega) (by omega)]; exact d4
    · exact dS_sam d5 (z3 13 (by omega) (by omega) (by omega)) (z3 14 (by omega) (by omega) (by omega)) (fun k a b => by rw [z5 202 (by omega) (by omega) (by omega)])
  | false =>
    have cw : ∀ i, i < 24 → dd_X7_isWord 1 (1000 + 2 * i) (S0, I, J, x) = some (if isW T N p i then 1 else 0, (S0, I, J, x)) := fun i hi => c_isWord h.1 hi
    have mw : ∀ i, i < 12 → dd_X12_isWord 200 (1000 + 2 * (i + 12)) (S0, M, J', x') = some (if isW T N p i then 1 else 0, (S0, M, J', x')) := fun i hi => by
      have q := m_isWord (J := J') (x := x') h.2.1 (i := i + 12) (by omega)
      rw [isW_12 hi] at q; exact q
    have c0 : dd_X7_isWord 1 1000 (S0, I, J, x) = some (0, (S0, I, J, x)) := by have q := cw 0 (by omega); rw [hw0] at q; exact q
    have c1 : dd_X7_isWord 1 1002 (S0, I, J, x) = some (0, (S0, I, J, x)) := by have q := cw 1 (by omega); rw [hw1] at q; exact q
    have c2 : dd_X7_isWord 1 1004 (S0, I, J, x) = some (0, (S0, I, J, x)) := by have q := cw 2 (by omega); rw [hw2] at q; exact q
    have c3 : dd_X7_isWord 1 1006 (S0, I, J, x) = some (0, (S0, I, J, x)) := by have q := cw 3 (by omega); rw [hw3] at q; exact q
    have c4 : dd_X7_isWord 1 1008 (S0, I, J, x) = some (0, (S0, I, J, x)) := by have q := cw 4 (by omega); rw [hw4] at q; exact q
    have c5 : dd_X7_isWord 1 1010 (S0, I, J, x) = some (0, (S0, I, J, x)) := by have q := cw 5 (by omega); rw [hw5] at q; exact q
    have c6 : dd_X7_isWord 1 1012 (S0, I, J, x) = some (0, (S0, I, J, x)) := by have q := cw 6 (by omega); rw [hw6] at q; exact q
    have c7 : dd_X7_isWord 1 1014 (S0, I, J, x) = some (0, (S0, I, J, x)) := by have q := cw 7 (by omega); rw [hw7] at q; exact q
    have m0 : dd_X12_isWord 200 1024 (S0, M, J', x') = some (0, (S0, M, J', x')) := by have q := mw 0 (by omega); rw [hw0] at q; exact q
    have m1 : dd_X12_isWord 200 1026 (S0, M, J', x') = some (0, (S0, M, J', x')) := by have q := mw 1 (by omega); rw [hw1] at q; exact q
    have m2 : dd_X12_isWord 200 1028 (S0, M, J', x') = some (0, (S0, M, J', x')) := by have q := mw 2 (by omega); rw [hw2] at q; exact q
    have m3 : dd_X12_isWord 200 1030 (S0, M, J', x') = some (0, (S0, M, J', x')) := by have q := mw 3 (by omega); rw [hw3] at q; exact q
    have m4 : dd_X12_isWord 200 1032 (S0, M, J', x') = some (0, (S0, M, J', x')) := by have q := mw 4 (by omega); rw [hw4] at q; exact q
    have m5 : dd_X12_isWord 200 1034 (S0, M, J', x') = some (0, (S0, M, J', x')) := by have q := mw 5 (by omega); rw [hw5] at q; exact q
    have m6 : dd_X12_isWord 200 1036 (S0, M, J', x') = some (0, (S0, M, J', x')) := by have q := mw 6 (by omega); rw [hw6] at q; exact q
    have m7 : dd_X12_isWord 200 1038 (S0, M, J', x') = some (0, (S0, M, J', x')) := by have q := mw 7 (by omega); rw [hw7] at q; exact q
    unfold dd_X7_statement dd_X12_statement
    rw [r_rc, ob_s, c0, ob_s, if_pos rfl, r_rc, ob_s, c1, ob_s, if_pos rfl, r_rc, ob_s, c2, ob_s, if_pos rfl, r_rc, ob_s, c3, ob_s, if_pos rfl, r_rc, ob_s, c4, ob_s, if_pos rfl, r_rc, ob_s, c5, ob_s, if_pos rfl, r_rc, ob_s, c6, ob_s, if_pos rfl, r_rc, ob_s, c7, ob_s, if_pos rfl, r_rc, ob_s]
    rw [m_rc, ob_s, m0, ob_s, if_pos rfl, m_rc, ob_s, m1, ob_s, if_pos rfl, m_rc, ob_s, m2, ob_s, if_pos rfl, m_rc, ob_s, m3, ob_s, if_pos rfl, m_rc, ob_s, m4, ob_s, if_pos rfl, m_rc, ob_s, m5, ob_s, if_pos rfl, m_rc, ob_s, m6, ob_s, if_pos rfl, m_rc, ob_s, m7, ob_s, if_pos rfl, m_rc, ob_s]
    obtain ⟨I1, M1, q1, q2, q3⟩ := L_fail (J := J) (x := x) (J' := J') (x' := x') h (c := 1) (by decide)
    dsimp only
    rw [q1, q2, ob_s, ob_s]
    dsimp only
    rw [h01, if_neg (by simp), if_neg (by simp), ob_s, ob_s, clC0, clK0]
    exact Or.inr ⟨I1, M1, rfl, rfl, q3⟩
theorem closes_rc {m : ab_Mm} {z : Int32 × ab_Mm} (h : dd_X12_closes 200 59 m = some z) : ab_rc m 12 200 = some () := by
  unfold dd_X12_closes at h
  obtain ⟨u, hu, _⟩ := Option.bind_eq_some_iff.mp h
  exact hu
theorem takes_rc {m : ab_Mm} {z : Int32 × ab_Mm} (h : dd_X7_takes 1 59 m = some z) : ab_rc m 7 1 = some () := by
  unfold dd_X7_takes at h
  obtain ⟨u, hu, h1⟩ := Option.bind_eq_some_iff.mp h
  split at h1
  · obtain ⟨v, hv, _⟩ := Option.bind_eq_some_iff.mp h1
    exact hv
  · obtain ⟨v, hv, _⟩ := Option.bind_eq_some_iff.mp h1
    exact hv
/-- the whole text -/
theorem L_text : ∀ (R p fu fm it : Nat) (I M : Nat → Nat → Int32), N ≤ p + R → R + 1 < fu → R + 1 < fm → it ≤ p → STT T N p I0 M0 I M → DRF I M →
    (∃ I' M' p', bb_X7_read_107 fu 1 1 (nI it) (S0, I, J, x) = some (0, (S0, I', J, x)) ∧ bb_X12_parse_74 fm 200 1 (S0, M, J', x') = bb_X12_parse_110 200 1 (S0, M', J', x') ∧ STT T N p' I0 M0 I' M' ∧ DRF I' M') ∨ ∃ I' M' c, c ≠ 0 ∧ bb_X7_read_107 fu 1 1 (nI it) (S0, I, J, x) = some (c, (S0, I', J, x)) ∧ bb_X12_parse_74 fm 200 1 (S0, M, J', x') = some (c, (S0, M', J', x')) ∧ I' 1 4 = M' 200 17 ∧ BC I0 I' ∧ BM M0 M' := by
  intro R
  induction R using Nat.strongRecOn with
  | ind R ih =>
    intro p fu fm it I M hR e1 e2 hit h d
    obtain ⟨fu, rfl⟩ : ∃ z, fu = z + 1 := ⟨fu - 1, by omega⟩
    obtain ⟨fm, rfl⟩ : ∃ z, fm = z + 1 := ⟨fm - 1, by omega⟩
    have hp := h.1.2.1
    have hN := h.1.1.1
    have f4 : ∀ Ia : Nat → Nat → Int32, ab_fI (S0, Ia, J, x) 7 1 5 = some (Ia 1 5) := fun _ => fI_X7_5 okR
    have k0 : (kdC T N p = 0) = (tk T N p = 0) := kdC_lo (c := 0) (by omega)
    have k0m : (kdM T N p = 0) = (tk T N p = 0) := kdM_lo (c := 0) (by omega)
    rw [bb_X7_read_107, if_neg (show ¬ (800 : Int32) < nI it by rw [li_n 800, li_lt (by omega) (by omega)]; omega), if_neg n10, r_f8, ob_s, h.1.2.2.2.2, bb_X12_parse_74, if_neg n10, m_F14, ob_s, h.2.1.2.2.2.2.1]
    by_cases c : tk T N p = 0
    · rw [if_pos (by rw [k0]; exact c), if_pos (by rw [k0m]; exact c), bb_X7_read_153, f4, ob_s, h.2.2.2.2.2.2.1]
      exact Or.inl ⟨I, M, p, rfl, rfl, h, d⟩
    · rw [if_neg (by rw [k0]; exact c), if_neg (by rw [k0m]; exact c), r_rc, ob_s, m_rc, ob_s]
      have st := L_statement (J := J) (x := x) (J' := J') (x' := x') h d
      have ec : ((dd_X7_statement 1 (S0, I, J, x)).bind fun q2 => if q2.1 = 0 then bb_X7_read_145 (bb_X7_read_107 fu) 1 (nI it) q2.2 else (ab_rc q2.2 7 1).bind fun _ => (dd_X7_takes 1 (59 : Int32) q2.2).bind fun q3 => if q3.1 = 0 then bb_X7_read_145 (bb_X7_read_107 fu) 1 (nI it) q3.2 else bb_X7_read_146 (bb_X7_read_107 fu) 1 (nI it) (1 : Int32) q3.2) = (dd_X7_statement 1 (S0, I, J, x)).bind fun q2 => if q2.1 = 0 then bb_X7_read_107 fu 1 0 (nI it + 1) q2.2 else (ab_rc q2.2 7 1).bind fun _ => (dd_X7_takes 1 (59 : Int32) q2.2).bind fun q3 => if q3.1 = 0 then bb_X7_read_107 fu 1 0 (nI it + 1) q3.2 else bb_X7_read_107 fu 1 (1 : Int32) (nI it + 1) q3.2 := rfl
      have em : ((dd_X12_statement 200 (S0, M, J', x')).bind fun q2 => if q2.1 = 0 then bb_X12_parse_105 (bb_X12_parse_74 fm) 200 q2.2 else (ab_rc q2.2 12 200).bind fun _ => (dd_X12_closes 200 (59 : Int32) q2.2).bind fun q3 => if q3.1 = 0 then bb_X12_parse_105 (bb_X12_parse_74 fm) 200 q3.2 else bb_X12_parse_106 (bb_X12_parse_74 fm) 200 (1 : Int32) q3.2) = (dd_X12_statement 200 (S0, M, J', x')).bind fun q2 => if q2.1 = 0 then bb_X12_parse_74 fm 200 0 q2.2 else (ab_rc q2.2 12 200).bind fun _ => (dd_X12_closes 200 (59 : Int32) q2.2).bind fun q3 => if q3.1 = 0 then bb_X12_parse_74 fm 200 0 q3.2 else bb_X12_parse_74 fm 200 (1 : Int32) q3.2 := rfl
      rw [ec, em]
      have zero : ∀ (Ma : Nat → Nat → Int32), bb_X12_parse_74 fm 200 0 (S0, Ma, J', x') = some (Ma 200 16, (S0, Ma, J', x')) := by
        intro Ma
        obtain ⟨fm, rfl⟩ : ∃ z, fm = z + 1 := ⟨fm - 1, by omega⟩
        rw [bb_X12_parse_74, if_pos rfl, bb_X12_parse_110, if_pos rfl, m_F16, ob_s]
      have zeroC : ∀ (Ia : Nat → Nat → Int32) (i : Int32), bb_X7_read_107 fu 1 0 i (S0, Ia, J, x) = some (Ia 1 5, (S0, Ia, J, x)) := by
        intro Ia i
        obtain ⟨fu, rfl⟩ : ∃ z, fu = z + 1 := ⟨fu - 1, by omega⟩
        rw [bb_X7_read_107]
        split
        · rw [bb_X7_read_153, f4, ob_s]
        · rw [if_pos rfl, bb_X7_read_153, f4, ob_s]
      rcases st with ⟨I1, M1, r1, r2, ⟨p1, hp1, r3⟩, r4⟩ | ⟨I1, M1, r1, r2, r3⟩
      · obtain ⟨v, hv, hc⟩ := Option.bind_eq_some_iff.mp r2
        have hm : bb_X12_parse_74 fm 200 (1 : Int32) (S0, M1, J', x') = ((dd_X12_statement 200 (S0, M, J', x')).bind fun q2 => if q2.1 = 0 then bb_X12_parse_74 fm 200 0 q2.2 else (ab_rc q2.2 12 200).bind fun _ => (dd_X12_closes 200 (59 : Int32) q2.2).bind fun q3 => if q3.1 = 0 then bb_X12_parse_74 fm 200 0 q3.2 else bb_X12_parse_74 fm 200 (1 : Int32) q3.2) := by
          rw [hv, ob_s]
          unfold clK at hc
          by_cases v0 : v.1 = 0
          · rw [if_pos v0] at hc
            have := congrArg (fun o => o.map Prod.fst) hc
            simp at this
          · rw [if_neg v0] at hc ⊢
            rw [closes_rc hc, ob_s, hc, ob_s, if_neg n10]
        obtain ⟨vc, hvc, hcc⟩ := Option.bind_eq_some_iff.mp r1
        have hC : bb_X7_read_107 fu 1 (1 : Int32) (nI it + 1) (S0, I1, J, x) = ((dd_X7_statement 1 (S0, I, J, x)).bind fun q2 => if q2.1 = 0 then bb_X7_read_107 fu 1 0 (nI it + 1) q2.2 else (ab_rc q2.2 7 1).bind fun _ => (dd_X7_takes 1 (59 : Int32) q2.2).bind fun q3 => if q3.1 = 0 then bb_X7_read_107 fu 1 0 (nI it + 1) q3.2 else bb_X7_read_107 fu 1 (1 : Int32) (nI it + 1) q3.2) := by
          rw [hvc, ob_s]
          unfold clC at hcc
          by_cases v0 : vc.1 = 0
          · rw [if_pos v0] at hcc
            have := congrArg (fun o => o.map Prod.fst) hcc
            simp at this
          · rw [if_neg v0] at hcc ⊢
            rw [takes_rc hcc, ob_s, hcc, ob_s, if_neg n10]
        rw [← hm, ← hC, nI_1]
        have hp1N := r3.1.2.1
        exact ih (N - p1) (by omega) p1 fu fm (it + 1) I1 M1 (by omega) (by omega) (by omega) (by omega) r3 r4
      · obtain ⟨v, hv, hc⟩ := Option.bind_eq_some_iff.mp r2
        obtain ⟨⟨c0, cn, c1, c2, c3⟩, hb, hm2⟩ := r3
        have hm : ((dd_X12_statement 200 (S0, M, J', x')).bind fun q2 => if q2.1 = 0 then bb_X12_parse_74 fm 200 0 q2.2 else (ab_rc q2.2 12 200).bind fun _ => (dd_X12_closes 200 (59 : Int32) q2.2).bind fun q3 => if q3.1 = 0 then bb_X12_parse_74 fm 200 0 q3.2 else bb_X12_parse_74 fm 200 (1 : Int32) q3.2) = some (c0, (S0, M1, J', x')) := by
          rw [hv, ob_s]
          unfold clK at hc
          by_cases v0 : v.1 = 0
          · rw [if_pos v0] at hc ⊢
            have e : v.2 = (S0, M1, J', x') := by
              have := Option.some.inj hc
              exact congrArg Prod.snd this
            rw [e, zero, c2]
          · rw [if_neg v0] at hc ⊢
            rw [closes_rc hc, ob_s, hc, ob_s, if_pos rfl, zero, c2]
        obtain ⟨vc, hvc, hcc⟩ := Option.bind_eq_some_iff.mp r1
        have hC : ((dd_X7_statement 1 (S0, I, J, x)).bind fun q2 => if q2.1 = 0 then bb_X7_read_107 fu 1 0 (nI it + 1) q2.2 else (ab_rc q2.2 7 1).bind fun _ => (dd_X7_takes 1 (59 : Int32) q2.2).bind fun q3 => if q3.1 = 0 then bb_X7_read_107 fu 1 0 (nI it + 1) q3.2 else bb_X7_read_107 fu 1 (1 : Int32) (nI it + 1) q3.2) = some (c0, (S0, I1, J, x)) := by
          rw [hvc, ob_s]
          unfold clC at hcc
          by_cases v0 : vc.1 = 0
          · rw [if_pos v0] at hcc ⊢
            have e : vc.2 = (S0, I1, J, x) := by
              have := Option.some.inj hcc
              exact congrArg Prod.snd this
            rw [e, zeroC, c1]
          · rw [if_neg v0] at hcc ⊢
            rw [takes_rc hcc, ob_s, hcc, ob_s, if_pos rfl, zeroC, c1]
        rw [hm, hC]
        exact Or.inr ⟨I1, M1, c0, cn, rfl, rfl, c3, hb, hm2⟩
end TX
