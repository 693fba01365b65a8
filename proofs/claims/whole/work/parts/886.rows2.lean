/-! ===== more statements (by program: wip/whole/rowst.py) ===== -/
section S2
variable {I I' I0 I1 I2 I3 I4 M M' M0 M1 M2 : Nat → Nat → Int32} {J J' J1 J2 J3 J4 : Nat → Nat → Int64} {x x' : Nat} {T : Nat → Int32} {N p : Nat}
theorem L_type (h : STT T N p I0 M0 I M) (hw0 : isW T N p 0 = false) (hw1 : isW T N p 1 = true) {n : Nat} (d : dY (I 7) (I 8) (M 204) (M 202 8) n) : LK I0 M0 J x J' x' ((dd_X7_statement 1 (S0, I, J, x)).bind clC) ((dd_X12_statement 200 (S0, M, J', x')).bind clK) (fun I' M' => (∃ p', p < p' ∧ STT T N p' I0 M0 I' M') ∧ dY (I' 7) (I' 8) (M' 204) (M' 202 8) (n + 1) ∧ (∀ r, r ≠ 1 → r ≠ 7 → r ≠ 8 → I' r = I r) ∧ I' 1 10 = I 1 10 ∧ (∀ r, r ≠ 200 → r ≠ 202 → r ≠ 204 → M' r = M r) ∧ (∀ k, k ≠ 8 → M' 202 k = M 202 k) ∧ M' 200 19 = M 200 19) := by
  obtain ⟨n8, d1, d2, d3⟩ := d
  have cw0 : dd_X7_isWord 1 1000 (S0, I, J, x) = some (0, (S0, I, J, x)) := by
    have q := c_isWord (J := J) (x := x) h.1 (i := 0) (by omega)
    rw [hw0] at q; exact q
  have mw0 : dd_X12_isWord 200 1024 (S0, M, J', x') = some (0, (S0, M, J', x')) := by
    have q := m_isWord (J := J') (x := x') h.2.1 (i := 12) (by omega)
    rw [isW_12 (i := 0) (by omega), hw0] at q; exact q
  have cw1 : dd_X7_isWord 1 1002 (S0, I, J, x) = some (1, (S0, I, J, x)) := by
    have q := c_isWord (J := J) (x := x) h.1 (i := 1) (by omega)
    rw [hw1] at q; exact q
  have mw1 : dd_X12_isWord 200 1026 (S0, M, J', x') = some (1, (S0, M, J', x')) := by
    have q := m_isWord (J := J') (x := x') h.2.1 (i := 13) (by omega)
    rw [isW_12 (i := 1) (by omega), hw1] at q; exact q
  have htk : tk T N p ≠ 0 := by
    intro z
    unfold isW at hw1
    rw [if_neg (by omega)] at hw1
    cases hw1
  have hp := h.1.2.1
  have hT := h.2.1.1.2.1
  have hpn := (nxt_le (T := T) hp).2.2 htk
  have k7 : ∀ Ma : Nat → Nat → Int32, Ma 202 8 = nI n → ab_ld (S0, Ma, J', x') 1 202 8 = some (nI n) := fun Ma hM => by rw [← hM]; exact m_told (j := 8) (by omega)
  have cR : ∀ (Ia : Nat → Nat → Int32), ab_fR (S0, Ia, J, x) 7 1 3 = some 4 := fun _ => fR_X7_3 okR
  have c0 : ∀ (Ia : Nat → Nat → Int32), ab_fR (S0, Ia, J, x) 1 4 1 = some 7 := fun _ => op_fR (fs := [some (some 5), some (some 7), some (some 9), some (some 11), some (some 13), some (some 15)]) rfl rfl
  unfold dd_X7_statement dd_X12_statement
  rw [r_rc, ob_s, cw0, ob_s, if_pos rfl, r_rc, ob_s, cw1, ob_s, if_neg n10, cR, ob_s]
  rw [m_rc, ob_s, mw0, ob_s, if_pos rfl, m_rc, ob_s, mw1, ob_s, if_neg n10, m_R2, ob_s, k7 M d2, ob_s, m_rc, ob_s]
  dsimp only
  rw [c0, ob_s, r_rc, ob_s]
  refine LK_bindB (L_opens (w := 1) h tbY h.2.2.2.1.2.2.2.2.1 d1 n8 (by omega) d2 (li_n 1) (by omega) rfl) (fun I => ?_) (fun M => ?_) (fun I1 M1 z1 => ?_)
  · dsimp only; rw [if_pos rfl, bb_X7_statement_177, bb_X7_statement_178, h01, if_neg (by simp), ob_s]; exact clC0 I
  · dsimp only; rw [if_pos rfl, bb_X12_statement_168, bb_X12_statement_169, h01, if_neg (by simp), ob_s]; exact clK0 M
  obtain ⟨z1, zn, za, zm⟩ := z1
  have e1 : I1 7 = I 7 := za.1 7 (by omega)
  have m1 : M1 202 = M 202 := zm.1 202 (by omega)
  have hp1 := z1.1.2.1
  have ex0 : (3 : Int32) * nI n = nI (3 * n) := li_mul 3 n
  dsimp only
  rw [if_neg n10, cR, ob_s, c0, ob_s, r_rc, ob_s, if_neg n10, m_R4, ob_s, m_rc, ob_s]
  refine LK_bindB (L_lays (col := 0) (k := 3 * n) (hf := 18) z1 1 64 tbY z1.2.2.2.1.2.2.2.2.1 (by rw [e1]; exact d1) (li_n 0) (by omega) (by omega) (by omega) sh_202 d3_18 ex0 (by omega) (by omega) (by omega)) (fun I => ?_) (fun M => ?_) (fun I2 M2 z2 => ?_)
  · dsimp only; rw [if_pos rfl, bb_X7_statement_177, bb_X7_statement_178, h01, if_neg (by simp), ob_s]; exact clC0 I
  · dsimp only; rw [if_pos rfl, bb_X12_statement_168, bb_X12_statement_169, h01, if_neg (by simp), ob_s]; exact clK0 M
  obtain ⟨z2, t2, v2, w2, _, l2, u2, fc2, fm2⟩ := z2
  have e2 : I2 7 = I 7 := (fc2.1 7 (by omega) (by omega)).trans e1
  have m2 : M2 202 = M 202 := (fm2.1 202 (by omega) (by omega)).trans m1
  have hp2 := z2.1.2.1
  dsimp only
  rw [if_neg n10, cR, ob_s, c0, ob_s, r_rc, ob_s, if_neg n10, m_R4, ob_s, m_rc, ob_s]
  have ex1 : (3 : Int32) * nI n + 1 = nI (3 * n + 1) := by rw [ex0, li_n 1, li_add]
  refine LK_bindB (L_lays (col := 1) (k := 3 * n + 1) (hf := 18) z2 1 256 tbY z2.2.2.2.1.2.2.2.2.1 (by rw [e2]; exact d1) (li_n 1) (by omega) (by omega) (by omega) sh_202 d3_18 ex1 (by omega) (by omega) (by omega)) (fun I => ?_) (fun M => ?_) (fun I3 M3 z3 => ?_)
  · dsimp only; rw [if_pos rfl, bb_X7_statement_177, bb_X7_statement_178, h01, if_neg (by simp), ob_s]; exact clC0 I
  · dsimp only; rw [if_pos rfl, bb_X12_statement_168, bb_X12_statement_169, h01, if_neg (by simp), ob_s]; exact clK0 M
  obtain ⟨z3, t3, v3, w3, _, l3, u3, fc3, fm3⟩ := z3
  have e3 : I3 7 = I 7 := (fc3.1 7 (by omega) (by omega)).trans e2
  have m3 : M3 202 = M 202 := (fm3.1 202 (by omega) (by omega)).trans m2
  have hp3 := z3.1.2.1
  dsimp only
  rw [if_neg n10, cR, ob_s, c0, ob_s, r_rc, ob_s, if_neg n10, m_R4, ob_s, m_rc, ob_s]
  have ex2 : (3 : Int32) * nI n + 2 = nI (3 * n + 2) := by rw [ex0, li_n 2, li_add]
  refine LK_bindB (L_lays (col := 2) (k := 3 * n + 2) (hf := 18) z3 1 9999 tbY z3.2.2.2.1.2.2.2.2.1 (by rw [e3]; exact d1) (li_n 2) (by omega) (by omega) (by omega) sh_202 d3_18 ex2 (by omega) (by omega) (by omega)) (fun I => ?_) (fun M => ?_) (fun I4 M4 z4 => ?_)
  · dsimp only; rw [if_pos rfl, bb_X7_statement_177, bb_X7_statement_178, h01, if_neg (by simp), ob_s]; exact clC0 I
  · dsimp only; rw [if_pos rfl, bb_X12_statement_168, bb_X12_statement_169, h01, if_neg (by simp), ob_s]; exact clK0 M
  obtain ⟨z4, t4, v4, w4, _, l4, u4, fc4, fm4⟩ := z4
  have e4 : I4 7 = I 7 := (fc4.1 7 (by omega) (by omega)).trans e3
  have m4 : M4 202 = M 202 := (fm4.1 202 (by omega) (by omega)).trans m3
  have hp4 := z4.1.2.1
  dsimp only
  rw [if_neg n10, cR, ob_s, c0, ob_s, r_rc, ob_s, c_keeps tbY z4.2.2.2.1.2.2.2.2.1 (by rw [e4]; exact d1) zn, ob_s]
  dsimp only
  rw [if_neg n10, bb_X7_statement_178, h11, if_neg (by simp), ob_s, clC1]
  rw [if_neg n10, m_rc, ob_s, m_counts (w := 1) (by omega) (li_n 1) (by rw [m4]; exact d2), ob_s, if_neg n10, bb_X12_statement_169, h11, if_neg (by simp), ob_s, clK1]
  have h4 : STT T N (nxt T N (nxt T N (nxt T N (nxt T N p)))) I0 M0 I4 (ab_u M4 202 (7 + 1) (nI (n + 1))) := STT_uM z4 _ (by omega)
  refine LK_weak (L_close h4 (by omega)) (fun Iz Mz zz => ?_)
  · obtain ⟨y1, y2, y3, y4, y5⟩ := zz
    have a1 := nxt_le (T := T) hp1
    have b1 := stt_le (T := T) hp1
    have a2 := nxt_le (T := T) hp2
    have b2 := stt_le (T := T) hp2
    have a3 := nxt_le (T := T) hp3
    have b3 := stt_le (T := T) hp3
    have a4 := nxt_le (T := T) hp4
    have b4 := stt_le (T := T) hp4
    have r5 : ∀ j, j ≠ n * 3 + 0 → j ≠ n * 3 + 1 → j ≠ n * 3 + 2 → Iz 8 j = I 8 j := fun j g0 g1 g2 => by
      rw [y3 8 (by omega) (by omega), fc4.2.1 j g2, fc3.2.1 j g1, fc2.2.1 j g0, za.1 8 (by omega)]
    have mz : Mz 204 = M4 204 := by rw [y5.1 204 (by omega), u_r (by omega)]
    have s5 : ∀ j, j ≠ 18 + (3 * n + 0) → j ≠ 18 + (3 * n + 1) → j ≠ 18 + (3 * n + 2) → Mz 204 j = M 204 j := fun j g0 g1 g2 => by
      rw [mz, fm4.2.1 j g2, fm3.2.1 j g1, fm2.2.1 j g0, zm.1 204 (by omega)]
    have r50 : Iz 8 (n * 3 + 0) = vlN T N (nxt T N p) := by rw [y3 8 (by omega) (by omega), fc4.2.1 _ (by omega), fc3.2.1 _ (by omega)]; exact v2
    have s50 : Mz 204 (18 + (3 * n + 0)) = vlN T N (nxt T N p) := by rw [mz, fm4.2.1 _ (by omega), fm3.2.1 _ (by omega)]; exact w2
    have q0 : isr (vlN T N (nxt T N p)) 1 64 := isr_vl hT hp1 t2 (by omega) (by omega) l2 u2
    have r51 : Iz 8 (n * 3 + 1) = vlN T N (nxt T N (nxt T N p)) := by rw [y3 8 (by omega) (by omega), fc4.2.1 _ (by omega)]; exact v3
    have s51 : Mz 204 (18 + (3 * n + 1)) = vlN T N (nxt T N (nxt T N p)) := by rw [mz, fm4.2.1 _ (by omega)]; exact w3
    have q1 : isr (vlN T N (nxt T N (nxt T N p))) 1 256 := isr_vl hT hp2 t3 (by omega) (by omega) l3 u3
    have r52 : Iz 8 (n * 3 + 2) = vlN T N (nxt T N (nxt T N (nxt T N p))) := by rw [y3 8 (by omega) (by omega)]; exact v4
    have s52 : Mz 204 (18 + (3 * n + 2)) = vlN T N (nxt T N (nxt T N (nxt T N p))) := by rw [mz]; exact w4
    have q2 : isr (vlN T N (nxt T N (nxt T N (nxt T N p)))) 1 9999 := isr_vl hT hp3 t4 (by omega) (by omega) l4 u4
    refine ⟨⟨_, by omega, y1⟩, ⟨by omega, y2, ?_, fun h hh => ?_⟩, fun r p1 p2 p3 => ?_, ?_, fun r p1 p2 p3 => ?_, fun k hk => ?_, ?_⟩
    · rw [y5.1 202 (by omega), u_e]
    · by_cases e : h = n
      · rw [e, r50, s50, r51, s51, r52, s52]; exact ⟨⟨rfl, q0⟩, ⟨rfl, q1⟩, rfl, q2⟩
      · rw [r5 _ (by omega) (by omega) (by omega), r5 _ (by omega) (by omega) (by omega), r5 _ (by omega) (by omega) (by omega), s5 _ (by omega) (by omega) (by omega), s5 _ (by omega) (by omega) (by omega), s5 _ (by omega) (by omega) (by omega)]; exact d3 h (by omega)
    · rw [y3 r p1 p2, fc4.1 r p1 p3, fc3.1 r p1 p3, fc2.1 r p1 p3, za.1 r p1]
    · rw [y4 10 (by omega) (by omega) (by omega), fc4.2.2 10 (by omega) (by omega) (by omega), fc3.2.2 10 (by omega) (by omega) (by omega), fc2.2.2 10 (by omega) (by omega) (by omega), za.2 10 (by omega) (by omega) (by omega)]
    · rw [y5.1 r p1, u_r p2, fm4.1 r p1 p3, fm3.1 r p1 p3, fm2.1 r p1 p3, zm.1 r p1]
    · rw [y5.1 202 (by omega), u_k hk, m4]
    · rw [y5.2 19 (by omega), u_r (by omega), fm4.2.2 19 (by omega) (by omega), fm3.2.2 19 (by omega) (by omega), fm2.2.2 19 (by omega) (by omega), zm.2 19 (by omega)]
theorem L_tenant (h : STT T N p I0 M0 I M) (hw0 : isW T N p 0 = false) (hw1 : isW T N p 1 = false) (hw2 : isW T N p 2 = true) {n : Nat} (d : dE (I 9) (I 10) (M 205) (M 202 9) n) : LK I0 M0 J x J' x' ((dd_X7_statement 1 (S0, I, J, x)).bind clC) ((dd_X12_statement 200 (S0, M, J', x')).bind clK) (fun I' M' => (∃ p', p < p' ∧ STT T N p' I0 M0 I' M') ∧ dE (I' 9) (I' 10) (M' 205) (M' 202 9) (n + 1) ∧ (∀ r, r ≠ 1 → r ≠ 9 → r ≠ 10 → I' r = I r) ∧ I' 1 10 = I 1 10 ∧ (∀ r, r ≠ 200 → r ≠ 202 → r ≠ 205 → M' r = M r) ∧ (∀ k, k ≠ 9 → M' 202 k = M 202 k) ∧ M' 200 19 = M 200 19) := by
  obtain ⟨n8, d1, d2, d3⟩ := d
  have cw0 : dd_X7_isWord 1 1000 (S0, I, J, x) = some (0, (S0, I, J, x)) := by
    have q := c_isWord (J := J) (x := x) h.1 (i := 0) (by omega)
    rw [hw0] at q; exact q
  have mw0 : dd_X12_isWord 200 1024 (S0, M, J', x') = some (0, (S0, M, J', x')) := by
    have q := m_isWord (J := J') (x := x') h.2.1 (i := 12) (by omega)
    rw [isW_12 (i := 0) (by omega), hw0] at q; exact q
  have cw1 : dd_X7_isWord 1 1002 (S0, I, J, x) = some (0, (S0, I, J, x)) := by
    have q := c_isWord (J := J) (x := x) h.1 (i := 1) (by omega)
    rw [hw1] at q; exact q
  have mw1 : dd_X12_isWord 200 1026 (S0, M, J', x') = some (0, (S0, M, J', x')) := by
    have q := m_isWord (J := J') (x := x') h.2.1 (i := 13) (by omega)
    rw [isW_12 (i := 1) (by omega), hw1] at q; exact q
  have cw2 : dd_X7_isWord 1 1004 (S0, I, J, x) = some (1, (S0, I, J, x)) := by
    have q := c_isWord (J := J) (x := x) h.1 (i := 2) (by omega)
    rw [hw2] at q; exact q
  have mw2 : dd_X12_isWord 200 1028 (S0, M, J', x') = some (1, (S0, M, J', x')) := by
    have q := m_isWord (J := J') (x := x') h.2.1 (i := 14) (by omega)
    rw [isW_12 (i := 2) (by omega), hw2] at q; exact q
  have htk : tk T N p ≠ 0 := by
    intro z
    unfold isW at hw2
    rw [if_neg (by omega)] at hw2
    cases hw2
  have hp := h.1.2.1
  have hT := h.2.1.1.2.1
  have hpn := (nxt_le (T := T) hp).2.2 htk
  have k7 : ∀ Ma : Nat → Nat → Int32, Ma 202 9 = nI n → ab_ld (S0, Ma, J', x') 1 202 9 = some (nI n) := fun Ma hM => by rw [← hM]; exact m_told (j := 9) (by omega)
  have cR : ∀ (Ia : Nat → Nat → Int32), ab_fR (S0, Ia, J, x) 7 1 3 = some 4 := fun _ => fR_X7_3 okR
  have c0 : ∀ (Ia : Nat → Nat → Int32), ab_fR (S0, Ia, J, x) 1 4 2 = some 9 := fun _ => op_fR (fs := [some (some 5), some (some 7), some (some 9), some (some 11), some (some 13), some (some 15)]) rfl rfl
  unfold dd_X7_statement dd_X12_statement
  rw [r_rc, ob_s, cw0, ob_s, if_pos rfl, r_rc, ob_s, cw1, ob_s, if_pos rfl, r_rc, ob_s, cw2, ob_s, if_neg n10, cR, ob_s]
  rw [m_rc, ob_s, mw0, ob_s, if_pos rfl, m_rc, ob_s, mw1, ob_s, if_pos rfl, m_rc, ob_s, mw2, ob_s, if_neg n10, m_rc, ob_s]
  dsimp only
  rw [c0, ob_s, r_rc, ob_s]
  refine LK_bindB (L_opens (w := 2) h tbE h.2.2.2.1.2.2.2.2.2.1 d1 n8 (by omega) d2 (li_n 2) (by omega) rfl) (fun I => ?_) (fun M => ?_) (fun I1 M1 z1 => ?_)
  · dsimp only; rw [if_pos rfl, bb_X7_statement_239, bb_X7_statement_240, h01, if_neg (by simp), ob_s]; exact clC0 I
  · dsimp only; rw [if_pos rfl, bb_X12_statement_223, bb_X12_statement_224, h01, if_neg (by simp), ob_s]; exact clK0 M
  obtain ⟨z1, zn, za, zm⟩ := z1
  have e1 : I1 9 = I 9 := za.1 9 (by omega)
  have m1 : M1 202 = M 202 := zm.1 202 (by omega)
  have hp1 := z1.1.2.1
  dsimp only
  rw [if_neg n10, cR, ob_s, c0, ob_s, r_rc, ob_s, if_neg n10, m_R5, ob_s, m_R2, ob_s, k7 M1 (by rw [m1]; exact d2), ob_s, m_rc, ob_s]
  refine LK_bindB (L_lays (col := 0) (k := n) (hf := 6) z1 0 9999 tbE z1.2.2.2.1.2.2.2.2.2.1 (by rw [e1]; exact d1) (li_n 0) (by omega) (by omega) (by omega) sh_203 d3_6 rfl (by omega) (by omega) (by omega)) (fun I => ?_) (fun M => ?_) (fun I2 M2 z2 => ?_)
  · dsimp only; rw [if_pos rfl, bb_X7_statement_239, bb_X7_statement_240, h01, if_neg (by simp), ob_s]; exact clC0 I
  · dsimp only; rw [if_pos rfl, bb_X12_statement_223, bb_X12_statement_224, h01, if_neg (by simp), ob_s]; exact clK0 M
  obtain ⟨z2, t2, v2, w2, _, l2, u2, fc2, fm2⟩ := z2
  have e2 : I2 9 = I 9 := (fc2.1 9 (by omega) (by omega)).trans e1
  have m2 : M2 202 = M 202 := (fm2.1 202 (by omega) (by omega)).trans m1
  have hp2 := z2.1.2.1
  dsimp only
  rw [if_neg n10, cR, ob_s, c0, ob_s, r_rc, ob_s, c_keeps tbE z2.2.2.2.1.2.2.2.2.2.1 (by rw [e2]; exact d1) zn, ob_s]
  dsimp only
  rw [if_neg n10, bb_X7_statement_240, h11, if_neg (by simp), ob_s, clC1]
  rw [if_neg n10, m_rc, ob_s, m_counts (w := 2) (by omega) (li_n 2) (by rw [m2]; exact d2), ob_s, if_neg n10, bb_X12_statement_224, h11, if_neg (by simp), ob_s, clK1]
  have h4 : STT T N (nxt T N (nxt T N p)) I0 M0 I2 (ab_u M2 202 (7 + 2) (nI (n + 1))) := STT_uM z2 _ (by omega)
  refine LK_weak (L_close h4 (by omega)) (fun Iz Mz zz => ?_)
  · obtain ⟨y1, y2, y3, y4, y5⟩ := zz
    have a1 := nxt_le (T := T) hp1
    have b1 := stt_le (T := T) hp1
    have a2 := nxt_le (T := T) hp2
    have b2 := stt_le (T := T) hp2
    have r5 : ∀ j, j ≠ n * 1 + 0 → Iz 10 j = I 10 j := fun j g0 => by
      rw [y3 10 (by omega) (by omega), fc2.2.1 j g0, za.1 10 (by omega)]
    have mz : Mz 205 = M2 205 := by rw [y5.1 205 (by omega), u_r (by omega)]
    have s5 : ∀ j, j ≠ 6 + n → Mz 205 j = M 205 j := fun j g0 => by
      rw [mz, fm2.2.1 j g0, zm.1 205 (by omega)]
    have r50 : Iz 10 (n * 1 + 0) = vlN T N (nxt T N p) := by rw [y3 10 (by omega) (by omega)]; exact v2
    have s50 : Mz 205 (6 + n) = vlN T N (nxt T N p) := by rw [mz]; exact w2
    have q0 : isr (vlN T N (nxt T N p)) 0 9999 := isr_vl hT hp1 t2 (by omega) (by omega) l2 u2
    refine ⟨⟨_, by omega, y1⟩, ⟨by omega, y2, ?_, fun h hh => ?_⟩, fun r p1 p2 p3 => ?_, ?_, fun r p1 p2 p3 => ?_, fun k hk => ?_, ?_⟩
    · rw [y5.1 202 (by omega), u_e]
    · by_cases e : h = n
      · rw [e, r50, s50]; exact ⟨rfl, q0⟩
      · rw [r5 _ (by omega), s5 _ (by omega)]; exact d3 h (by omega)
    · rw [y3 r p1 p2, fc2.1 r p1 p3, za.1 r p1]
    · rw [y4 10 (by omega) (by omega) (by omega), fc2.2.2 10 (by omega) (by omega) (by omega), za.2 10 (by omega) (by omega) (by omega)]
    · rw [y5.1 r p1, u_r p2, fm2.1 r p1 p3, zm.1 r p1]
    · rw [y5.1 202 (by omega), u_k hk, m2]
    · rw [y5.2 19 (by omega), u_r (by omega), fm2.2.2 19 (by omega) (by omega), zm.2 19 (by omega)]
theorem L_res (h : STT T N p I0 M0 I M) (hw0 : isW T N p 0 = false) (hw1 : isW T N p 1 = false) (hw2 : isW T N p 2 = false) (hw3 : isW T N p 3 = true) {n NY NE : Nat} (hY : I 7 3 = nI NY ∧ M 202 8 = nI NY ∧ NY ≤ 6) (hE : I 9 3 = nI NE ∧ M 202 9 = nI NE ∧ NE ≤ 6) (d : dV (I 11) (I 12) (M 206) (M 202 10) NY NE n) : LK I0 M0 J x J' x' ((dd_X7_statement 1 (S0, I, J, x)).bind clC) ((dd_X12_statement 200 (S0, M, J', x')).bind clK) (fun I' M' => (∃ p', p < p' ∧ STT T N p' I0 M0 I' M') ∧ dV (I' 11) (I' 12) (M' 206) (M' 202 10) NY NE (n + 1) ∧ (∀ r, r ≠ 1 → r ≠ 11 → r ≠ 12 → I' r = I r) ∧ I' 1 10 = I 1 10 ∧ (∀ r, r ≠ 200 → r ≠ 202 → r ≠ 206 → M' r = M r) ∧ (∀ k, k ≠ 10 → M' 202 k = M 202 k) ∧ M' 200 19 = M 200 19) := by
  obtain ⟨n8, d1, d2, d3⟩ := d
  have cw0 : dd_X7_isWord 1 1000 (S0, I, J, x) = some (0, (S0, I, J, x)) := by
    have q := c_isWord (J := J) (x := x) h.1 (i := 0) (by omega)
    rw [hw0] at q; exact q
  have mw0 : dd_X12_isWord 200 1024 (S0, M, J', x') = some (0, (S0, M, J', x')) := by
    have q := m_isWord (J := J') (x := x') h.2.1 (i := 12) (by omega)
    rw [isW_12 (i := 0) (by omega), hw0] at q; exact q
  have cw1 : dd_X7_isWord 1 1002 (S0, I, J, x) = some (0, (S0, I, J, x)) := by
    have q := c_isWord (J := J) (x := x) h.1 (i := 1) (by omega)
    rw [hw1] at q; exact q
  have mw1 : dd_X12_isWord 200 1026 (S0, M, J', x') = some (0, (S0, M, J', x')) := by
    have q := m_isWord (J := J') (x := x') h.2.1 (i := 13) (by omega)
    rw [isW_12 (i := 1) (by omega), hw1] at q; exact q
  have cw2 : dd_X7_isWord 1 1004 (S0, I, J, x) = some (0, (S0, I, J, x)) := by
    have q := c_isWord (J := J) (x := x) h.1 (i := 2) (by omega)
    rw [hw2] at q; exact q
  have mw2 : dd_X12_isWord 200 1028 (S0, M, J', x') = some (0, (S0, M, J', x')) := by
    have q := m_isWord (J := J') (x := x') h.2.1 (i := 14) (by omega)
    rw [isW_12 (i := 2) (by omega), hw2] at q; exact q
  have cw3 : dd_X7_isWord 1 1006 (S0, I, J, x) = some (1, (S0, I, J, x)) := by
    have q := c_isWord (J := J) (x := x) h.1 (i := 3) (by omega)
    rw [hw3] at q; exact q
  have mw3 : dd_X12_isWord 200 1030 (S0, M, J', x') = some (1, (S0, M, J', x')) := by
    have q := m_isWord (J := J') (x := x') h.2.1 (i := 15) (by omega)
    rw [isW_12 (i := 3) (by omega), hw3] at q; exact q
  have htk : tk T N p ≠ 0 := by
    intro z
    unfold isW at hw3
    rw [if_neg (by omega)] at hw3
    cases hw3
  have hp := h.1.2.1
  have hT := h.2.1.1.2.1
  have hpn := (nxt_le (T := T) hp).2.2 htk
  have k8 : ∀ Ma : Nat → Nat → Int32, Ma 202 = M 202 → ab_ld (S0, Ma, J', x') 1 202 8 = some (nI NY) := fun Ma hM => by rw [← hY.2.1, ← hM]; exact m_told (j := 8) (by omega)
  have k9 : ∀ Ma : Nat → Nat → Int32, Ma 202 = M 202 → ab_ld (S0, Ma, J', x') 1 202 9 = some (nI NE) := fun Ma hM => by rw [← hE.2.1, ← hM]; exact m_told (j := 9) (by omega)
  have k10 : ∀ Ma : Nat → Nat → Int32, Ma 202 = M 202 → ab_ld (S0, Ma, J', x') 1 202 10 = some (nI n) := fun Ma hM => by rw [← d2, ← hM]; exact m_told (j := 10) (by omega)
  have cR : ∀ (Ia : Nat → Nat → Int32), ab_fR (S0, Ia, J, x) 7 1 3 = some 4 := fun _ => fR_X7_3 okR
  have cf1 : ∀ (Ia : Nat → Nat → Int32), ab_fR (S0, Ia, J, x) 1 4 1 = some 7 := fun _ => op_fR (fs := [some (some 5), some (some 7), some (some 9), some (some 11), some (some 13), some (some 15)]) rfl rfl
  have cf2 : ∀ (Ia : Nat → Nat → Int32), ab_fR (S0, Ia, J, x) 1 4 2 = some 9 := fun _ => op_fR (fs := [some (some 5), some (some 7), some (some 9), some (some 11), some (some 13), some (some 15)]) rfl rfl
  have cf3 : ∀ (Ia : Nat → Nat → Int32), ab_fR (S0, Ia, J, x) 1 4 3 = some 11 := fun _ => op_fR (fs := [some (some 5), some (some 7), some (some 9), some (some 11), some (some 13), some (some 15)]) rfl rfl
  unfold dd_X7_statement dd_X12_statement
  rw [r_rc, ob_s, cw0, ob_s, if_pos rfl, r_rc, ob_s, cw1, ob_s, if_pos rfl, r_rc, ob_s, cw2, ob_s, if_pos rfl, r_rc, ob_s, cw3, ob_s, if_neg n10, cR, ob_s]
  rw [m_rc, ob_s, mw0, ob_s, if_pos rfl, m_rc, ob_s, mw1, ob_s, if_pos rfl, m_rc, ob_s, mw2, ob_s, if_pos rfl, m_rc, ob_s, mw3, ob_s, if_neg n10, m_rc, ob_s]
  dsimp only
  rw [cf3, ob_s, r_rc, ob_s]
  rw [Option.bind_assoc]
  unfold dd_X7_reservation
  rw [r_rc, ob_s]
  refine LK_bindB (L_opens (w := 3) h tbRv h.2.2.2.1.2.2.2.2.2.2.1 d1 n8 (by omega) d2 (li_n 3) (by omega) rfl) (fun I => ?_) (fun M => ?_) (fun I1 M1 z1 => ?_)
  · dsimp only; rw [if_pos rfl, bb_X7_reservation_124, bb_X7_reservation_125, h01, if_neg (by simp), ob_s]; dsimp only; rw [h01, if_neg (by simp), ob_s]; exact clC0 I
  · dsimp only; rw [if_pos rfl, bb_X12_statement_273, bb_X12_statement_274, h01, if_neg (by simp), ob_s]; exact clK0 M
  obtain ⟨z1, zn, za, zm⟩ := z1
  have e1 : ∀ r, r ≠ 1 → r ≠ 12 → I1 r = I r := fun r p1 _ => za.1 r p1
  have m1 : M1 202 = M 202 := zm.1 202 (by omega)
  have hp1 := z1.1.2.1
  have ex0 : (6 : Int32) * nI n = nI (6 * n) := li_mul 6 n
  have ex1 : (6 : Int32) * nI n + 1 = nI (6 * n + 1) := by rw [ex0, li_n 1, li_add]
  have ex2 : (6 : Int32) * nI n + 2 = nI (6 * n + 2) := by rw [ex0, li_n 2, li_add]
  have ex3 : (6 : Int32) * nI n + 3 = nI (6 * n + 3) := by rw [ex0, li_n 3, li_add]
  have ex4 : (6 : Int32) * nI n + 4 = nI (6 * n + 4) := by rw [ex0, li_n 4, li_add]
  have ex5 : (6 : Int32) * nI n + 5 = nI (6 * n + 5) := by rw [ex0, li_n 5, li_add]
  dsimp only
  rw [if_neg n10, cR, ob_s, cf2, ob_s, fI_X10_3 tbE.1, ob_s, e1 9 (by omega) (by omega), hE.1, r_rc, ob_s, if_neg n10, m_R2, ob_s, k10 M1 m1, ob_s, m_rc, ob_s, Option.bind_assoc (dd_X12_reserveLine _ _ _)]
  unfold dd_X12_reserveLine
  rw [m_R6, ob_s, m_R2, ob_s, k9 M1 m1, ob_s, m_rc, ob_s]
  refine LK_bindB (L_lays (col := 0) (k := 6 * n + 0) (hf := 48) z1 0 (nI NE - 1) tbRv z1.2.2.2.1.2.2.2.2.2.2.1 (by rw [e1 11 (by omega) (by omega)]; exact d1) (li_n 0) (by omega) (by omega) (by omega) sh_204 d3_48 ex0 (by omega) (by omega) (by omega)) (fun I => ?_) (fun M => ?_) (fun I2 M2 z2 => ?_)
  · dsimp only; rw [if_pos rfl, bb_X7_reservation_124, bb_X7_reservation_125, h01, if_neg (by simp), ob_s]; dsimp only; rw [h01, if_neg (by simp), ob_s]; exact clC0 I
  · dsimp only; rw [if_pos rfl, bb_X12_reserveLine_125, bb_X12_reserveLine_126, h01, if_neg (by simp), ob_s]; dsimp only; rw [if_pos rfl, bb_X12_statement_273, bb_X12_statement_274, h01, if_neg (by simp), ob_s]; exact clK0 M
  obtain ⟨z2, t2, v2, w2, x2, l2, u2, fc2, fm2⟩ := z2
  have e2 : ∀ r, r ≠ 1 → r ≠ 12 → I2 r = I r := fun r p1 p2 => (fc2.1 r p1 p2).trans (e1 r p1 p2)
  have m2 : M2 202 = M 202 := (fm2.1 202 (by omega) (by omega)).trans m1
  have hp2 := z2.1.2.1
  dsimp only
  rw [if_neg n10, cR, ob_s, cf1, ob_s, fI_X10_3 tbY.1, ob_s, e2 7 (by omega) (by omega), hY.1, r_rc, ob_s, if_neg n10, m_R6, ob_s, m_R2, ob_s, k8 M2 m2, ob_s, m_rc, ob_s]
  refine LK_bindB (L_lays (col := 1) (k := 6 * n + 1) (hf := 48) z2 0 (nI NY - 1) tbRv z2.2.2.2.1.2.2.2.2.2.2.1 (by rw [e2 11 (by omega) (by omega)]; exact d1) (li_n 1) (by omega) (by omega) (by omega) sh_204 d3_48 ex1 (by omega) (by omega) (by omega)) (fun I => ?_) (fun M => ?_) (fun I3 M3 z3 => ?_)
  · dsimp only; rw [if_pos rfl, bb_X7_reservation_124, bb_X7_reservation_125, h01, if_neg (by simp), ob_s]; dsimp only; rw [h01, if_neg (by simp), ob_s]; exact clC0 I
  · dsimp only; rw [if_pos rfl, bb_X12_reserveLine_125, bb_X12_reserveLine_126, h01, if_neg (by simp), ob_s]; dsimp only; rw [if_pos rfl, bb_X12_statement_273, bb_X12_statement_274, h01, if_neg (by simp), ob_s]; exact clK0 M
  obtain ⟨z3, t3, v3, w3, x3, l3, u3, fc3, fm3⟩ := z3
  have e3 : ∀ r, r ≠ 1 → r ≠ 12 → I3 r = I r := fun r p1 p2 => (fc3.1 r p1 p2).trans (e2 r p1 p2)
  have m3 : M3 202 = M 202 := (fm3.1 202 (by omega) (by omega)).trans m2
  have hp3 := z3.1.2.1
  dsimp only
  rw [if_neg n10, r_rc, ob_s, if_neg n10, m_R6, ob_s, m_rc, ob_s]
  refine LK_bindB (L_lays (col := 2) (k := 6 * n + 2) (hf := 48) z3 1 9 tbRv z3.2.2.2.1.2.2.2.2.2.2.1 (by rw [e3 11 (by omega) (by omega)]; exact d1) (li_n 2) (by omega) (by omega) (by omega) sh_204 d3_48 ex2 (by omega) (by omega) (by omega)) (fun I => ?_) (fun M => ?_) (fun I4 M4 z4 => ?_)
  · dsimp only; rw [if_pos rfl, bb_X7_reservation_124, bb_X7_reservation_125, h01, if_neg (by simp), ob_s]; dsimp only; rw [h01, if_neg (by simp), ob_s]; exact clC0 I
  · dsimp only; rw [if_pos rfl, bb_X12_reserveLine_125, bb_X12_reserveLine_126, h01, if_neg (by simp), ob_s]; dsimp only; rw [if_pos rfl, bb_X12_statement_273, bb_X12_statement_274, h01, if_neg (by simp), ob_s]; exact clK0 M
  obtain ⟨z4, t4, v4, w4, x4, l4, u4, fc4, fm4⟩ := z4
  have e4 : ∀ r, r ≠ 1 → r ≠ 12 → I4 r = I r := fun r p1 p2 => (fc4.1 r p1 p2).trans (e3 r p1 p2)
  have m4 : M4 202 = M 202 := (fm4.1 202 (by omega) (by omega)).trans m3
  have hp4 := z4.1.2.1
  dsimp only
  rw [if_neg n10, r_rc, ob_s, if_neg n10, m_R6, ob_s, m_rc, ob_s]
  refine LK_bindB (L_lays (col := 3) (k := 6 * n + 3) (hf := 48) z4 0 9998 tbRv z4.2.2.2.1.2.2.2.2.2.2.1 (by rw [e4 11 (by omega) (by omega)]; exact d1) (li_n 3) (by omega) (by omega) (by omega) sh_204 d3_48 ex3 (by omega) (by omega) (by omega)) (fun I => ?_) (fun M => ?_) (fun I5 M5 z5 => ?_)
  · dsimp only; rw [if_pos rfl, bb_X7_reservation_124, bb_X7_reservation_125, h01, if_neg (by simp), ob_s]; dsimp only; rw [h01, if_neg (by simp), ob_s]; exact clC0 I
  · dsimp only; rw [if_pos rfl, bb_X12_reserveLine_125, bb_X12_reserveLine_126, h01, if_neg (by simp), ob_s]; dsimp only; rw [if_pos rfl, bb_X12_statement_273, bb_X12_statement_274, h01, if_neg (by simp), ob_s]; exact clK0 M
  obtain ⟨z5, t5, v5, w5, x5, l5, u5, fc5, fm5⟩ := z5
  have e5 : ∀ r, r ≠ 1 → r ≠ 12 → I5 r = I r := fun r p1 p2 => (fc5.1 r p1 p2).trans (e4 r p1 p2)
  have m5 : M5 202 = M 202 := (fm5.1 202 (by omega) (by omega)).trans m4
  have hp5 := z5.1.2.1
  have e3n : I5 11 3 = nI n := by rw [e5 11 (by omega) (by omega)]; exact d1
  have gv := tb_get (J := J) (x := x) tbRv z5.2.2.2.1.2.2.2.2.2.2.1 (row := nI n) (col := 3) rfl (li_n 3) zn (by omega)
  rw [show I5 (11 + 1) (n * 6 + 3) = _ from v5] at gv
  dsimp only
  rw [if_neg n10, fI_X10_3 tbRv.1, ob_s, e3n, rc_X10 tbRv.1, ob_s, gv, ob_s, r_rc, ob_s, if_neg n10, m_R6, ob_s, m_F18, ob_s, x5, m_rc, ob_s]
  refine LK_bindB (L_lays (col := 4) (k := 6 * n + 4) (hf := 48) z5 (vlN T N (nxt T N (nxt T N (nxt T N (nxt T N p)))) + 1) 9999 tbRv z5.2.2.2.1.2.2.2.2.2.2.1 (by rw [e5 11 (by omega) (by omega)]; exact d1) (li_n 4) (by omega) (by omega) (by omega) sh_204 d3_48 ex4 (by omega) (by omega) (by omega)) (fun I => ?_) (fun M => ?_) (fun I6 M6 z6 => ?_)
  · dsimp only; rw [if_pos rfl, bb_X7_reservation_124, bb_X7_reservation_125, h01, if_neg (by simp), ob_s]; dsimp only; rw [h01, if_neg (by simp), ob_s]; exact clC0 I
  · dsimp only; rw [if_pos rfl, bb_X12_reserveLine_125, bb_X12_reserveLine_126, h01, if_neg (by simp), ob_s]; dsimp only; rw [if_pos rfl, bb_X12_statement_273, bb_X12_statement_274, h01, if_neg (by simp), ob_s]; exact clK0 M
  obtain ⟨z6, t6, v6, w6, x6, l6, u6, fc6, fm6⟩ := z6
  have e6 : ∀ r, r ≠ 1 → r ≠ 12 → I6 r = I r := fun r p1 p2 => (fc6.1 r p1 p2).trans (e5 r p1 p2)
  have m6 : M6 202 = M 202 := (fm6.1 202 (by omega) (by omega)).trans m5
  have hp6 := z6.1.2.1
  dsimp only
  rw [if_neg n10, r_rc, ob_s, if_neg n10, m_R6, ob_s, m_rc, ob_s]
  refine LK_bindB (L_lays (col := 5) (k := 6 * n + 5) (hf := 48) z6 0 100 tbRv z6.2.2.2.1.2.2.2.2.2.2.1 (by rw [e6 11 (by omega) (by omega)]; exact d1) (li_n 5) (by omega) (by omega) (by omega) sh_204 d3_48 ex5 (by omega) (by omega) (by omega)) (fun I => ?_) (fun M => ?_) (fun I7 M7 z7 => ?_)
  · dsimp only; rw [if_pos rfl, bb_X7_reservation_124, bb_X7_reservation_125, h01, if_neg (by simp), ob_s]; dsimp only; rw [h01, if_neg (by simp), ob_s]; exact clC0 I
  · dsimp only; rw [if_pos rfl, bb_X12_reserveLine_125, bb_X12_reserveLine_126, h01, if_neg (by simp), ob_s]; dsimp only; rw [if_pos rfl, bb_X12_statement_273, bb_X12_statement_274, h01, if_neg (by simp), ob_s]; exact clK0 M
  obtain ⟨z7, t7, v7, w7, x7, l7, u7, fc7, fm7⟩ := z7
  have e7 : ∀ r, r ≠ 1 → r ≠ 12 → I7 r = I r := fun r p1 p2 => (fc7.1 r p1 p2).trans (e6 r p1 p2)
  have m7 : M7 202 = M 202 := (fm7.1 202 (by omega) (by omega)).trans m6
  have hp7 := z7.1.2.1
  dsimp only
  rw [if_neg n10, r_rc, ob_s, c_keeps tbRv z7.2.2.2.1.2.2.2.2.2.2.1 (by rw [e7 11 (by omega) (by omega)]; exact d1) zn, ob_s]
  dsimp only
  rw [if_neg n10, bb_X7_reservation_125, h11, if_neg (by simp), ob_s]
  dsimp only
  rw [h11, if_neg (by simp), ob_s, clC1]
  rw [if_neg n10, bb_X12_reserveLine_126, h11, if_neg (by simp), ob_s]
  dsimp only
  rw [if_neg n10, m_rc, ob_s, m_counts (w := 3) (by omega) (li_n 3) (by rw [m7]; exact d2), ob_s, if_neg n10, bb_X12_statement_274, h11, if_neg (by simp), ob_s, clK1]
  have h4 : STT T N (nxt T N (nxt T N (nxt T N (nxt T N (nxt T N (nxt T N (nxt T N p))))))) I0 M0 I7 (ab_u M7 202 (7 + 3) (nI (n + 1))) := STT_uM z7 _ (by omega)
  refine LK_weak (L_close h4 (by omega)) (fun Iz Mz zz => ?_)
  · obtain ⟨y1, y2, y3, y4, y5⟩ := zz
    have a1 := nxt_le (T := T) hp1
    have b1 := stt_le (T := T) hp1
    have a2 := nxt_le (T := T) hp2
    have b2 := stt_le (T := T) hp2
    have a3 := nxt_le (T := T) hp3
    have b3 := stt_le (T := T) hp3
    have a4 := nxt_le (T := T) hp4
    have b4 := stt_le (T := T) hp4
    have a5 := nxt_le (T := T) hp5
    have b5 := stt_le (T := T) hp5
    have a6 := nxt_le (T := T) hp6
    have b6 := stt_le (T := T) hp6
    have a7 := nxt_le (T := T) hp7
    have b7 := stt_le (T := T) hp7
    have r5 : ∀ j, j ≠ n * 6 + 0 → j ≠ n * 6 + 1 → j ≠ n * 6 + 2 → j ≠ n * 6 + 3 → j ≠ n * 6 + 4 → j ≠ n * 6 + 5 → Iz 12 j = I 12 j := fun j g0 g1 g2 g3 g4 g5 => by
      rw [y3 12 (by omega) (by omega), fc7.2.1 j g5, fc6.2.1 j g4, fc5.2.1 j g3, fc4.2.1 j g2, fc3.2.1 j g1, fc2.2.1 j g0, za.1 12 (by omega)]
    have mz : Mz 206 = M7 206 := by rw [y5.1 206 (by omega), u_r (by omega)]
    have s5 : ∀ j, j ≠ 48 + (6 * n + 0) → j ≠ 48 + (6 * n + 1) → j ≠ 48 + (6 * n + 2) → j ≠ 48 + (6 * n + 3) → j ≠ 48 + (6 * n + 4) → j ≠ 48 + (6 * n + 5) → Mz 206 j = M 206 j := fun j g0 g1 g2 g3 g4 g5 => by
      rw [mz, fm7.2.1 j g5, fm6.2.1 j g4, fm5.2.1 j g3, fm4.2.1 j g2, fm3.2.1 j g1, fm2.2.1 j g0, zm.1 206 (by omega)]
    have r50 : Iz 12 (n * 6 + 0) = vlN T N (nxt T N p) := by rw [y3 12 (by omega) (by omega), fc7.2.1 _ (by omega), fc6.2.1 _ (by omega), fc5.2.1 _ (by omega), fc4.2.1 _ (by omega), fc3.2.1 _ (by omega)]; exact v2
    have s50 : Mz 206 (48 + (6 * n + 0)) = vlN T N (nxt T N p) := by rw [mz, fm7.2.1 _ (by omega), fm6.2.1 _ (by omega), fm5.2.1 _ (by omega), fm4.2.1 _ (by omega), fm3.2.1 _ (by omega)]; exact w2
    have r51 : Iz 12 (n * 6 + 1) = vlN T N (nxt T N (nxt T N p)) := by rw [y3 12 (by omega) (by omega), fc7.2.1 _ (by omega), fc6.2.1 _ (by omega), fc5.2.1 _ (by omega), fc4.2.1 _ (by omega)]; exact v3
    have s51 : Mz 206 (48 + (6 * n + 1)) = vlN T N (nxt T N (nxt T N p)) := by rw [mz, fm7.2.1 _ (by omega), fm6.2.1 _ (by omega), fm5.2.1 _ (by omega), fm4.2.1 _ (by omega)]; exact w3
    have r52 : Iz 12 (n * 6 + 2) = vlN T N (nxt T N (nxt T N (nxt T N p))) := by rw [y3 12 (by omega) (by omega), fc7.2.1 _ (by omega), fc6.2.1 _ (by omega), fc5.2.1 _ (by omega)]; exact v4
    have s52 : Mz 206 (48 + (6 * n + 2)) = vlN T N (nxt T N (nxt T N (nxt T N p))) := by rw [mz, fm7.2.1 _ (by omega), fm6.2.1 _ (by omega), fm5.2.1 _ (by omega)]; exact w4
    have r53 : Iz 12 (n * 6 + 3) = vlN T N (nxt T N (nxt T N (nxt T N (nxt T N p)))) := by rw [y3 12 (by omega) (by omega), fc7.2.1 _ (by omega), fc6.2.1 _ (by omega)]; exact v5
    have s53 : Mz 206 (48 + (6 * n + 3)) = vlN T N (nxt T N (nxt T N (nxt T N (nxt T N p)))) := by rw [mz, fm7.2.1 _ (by omega), fm6.2.1 _ (by omega)]; exact w5
    have r54 : Iz 12 (n * 6 + 4) = vlN T N (nxt T N (nxt T N (nxt T N (nxt T N (nxt T N p))))) := by rw [y3 12 (by omega) (by omega), fc7.2.1 _ (by omega)]; exact v6
    have s54 : Mz 206 (48 + (6 * n + 4)) = vlN T N (nxt T N (nxt T N (nxt T N (nxt T N (nxt T N p))))) := by rw [mz, fm7.2.1 _ (by omega)]; exact w6
    have r55 : Iz 12 (n * 6 + 5) = vlN T N (nxt T N (nxt T N (nxt T N (nxt T N (nxt T N (nxt T N p)))))) := by rw [y3 12 (by omega) (by omega)]; exact v7
    have s55 : Mz 206 (48 + (6 * n + 5)) = vlN T N (nxt T N (nxt T N (nxt T N (nxt T N (nxt T N (nxt T N p)))))) := by rw [mz]; exact w7
    have q0 : ∃ e, e < NE ∧ vlN T N (nxt T N p) = nI e := by
      obtain ⟨v, v1, v2⟩ := vl_is hT hp1 t2
      have uu := u2
      rw [v2] at uu ⊢
      refine ⟨v, ?_, rfl⟩
      by_cases z0 : NE = 0
      · rw [z0, Int32.le_iff_toInt_le, nI_toInt (by omega)] at uu
        have : (nI 0 - 1).toInt = -1 := by decide
        omega
      · rw [li_n 1, pk_sub (by omega), li_le (by have := hE.2.2; omega) (by have := hE.2.2; omega)] at uu
        omega
    have q1 : ∃ e, e < NY ∧ vlN T N (nxt T N (nxt T N p)) = nI e := by
      obtain ⟨v, v1, v2⟩ := vl_is hT hp2 t3
      have uu := u3
      rw [v2] at uu ⊢
      refine ⟨v, ?_, rfl⟩
      by_cases z0 : NY = 0
      · rw [z0, Int32.le_iff_toInt_le, nI_toInt (by omega)] at uu
        have : (nI 0 - 1).toInt = -1 := by decide
        omega
      · rw [li_n 1, pk_sub (by omega), li_le (by have := hY.2.2; omega) (by have := hY.2.2; omega)] at uu
        omega
    have q2 : isr (vlN T N (nxt T N (nxt T N (nxt T N p)))) 1 9 := isr_vl hT hp3 t4 (by omega) (by omega) l4 u4
    have q3 : isr (vlN T N (nxt T N (nxt T N (nxt T N (nxt T N p))))) 0 9998 := isr_vl hT hp4 t5 (by omega) (by omega) l5 u5
    have q5 : isr (vlN T N (nxt T N (nxt T N (nxt T N (nxt T N (nxt T N (nxt T N p))))))) 0 100 := isr_vl hT hp6 t7 (by omega) (by omega) l7 u7
    have q4 : isr (vlN T N (nxt T N (nxt T N (nxt T N (nxt T N (nxt T N p)))))) 1 9999 := by
      obtain ⟨v, v1, v2⟩ := vl_is hT hp4 t5
      have l6' := l6
      rw [v2, nI_1] at l6'
      refine isr_vl hT hp5 t6 (by omega) (by omega) ?_ u6
      obtain ⟨v', v1', v2'⟩ := vl_is hT hp5 t6
      rw [v2'] at l6' ⊢
      rw [li_lt (by omega) (by omega)] at l6' ⊢
      omega
    refine ⟨⟨_, by omega, y1⟩, ⟨by omega, y2, ?_, fun h hh => ?_⟩, fun r p1 p2 p3 => ?_, ?_, fun r p1 p2 p3 => ?_, fun k hk => ?_, ?_⟩
    · rw [y5.1 202 (by omega), u_e]
    · by_cases e : h = n
      · refine ⟨fun w hw => ?_, ?_⟩
        · rw [e]
          rcases (show w = 0 ∨ w = 1 ∨ w = 2 ∨ w = 3 ∨ w = 4 ∨ w = 5 by omega) with z | z | z | z | z | z <;> rw [z]
          · rw [r50, s50]
          · rw [r51, s51]
          · rw [r52, s52]
          · rw [r53, s53]
          · rw [r54, s54]
          · rw [r55, s55]
        · unfold rsN
          rw [e, s50, s51, s52, s53, s54, s55]
          exact ⟨q0, q1, q2, q3, q4, q5⟩
      · have dd := d3 h (by omega)
        refine ⟨fun w hw => ?_, ?_⟩
        · rw [r5 _ (by omega) (by omega) (by omega) (by omega) (by omega) (by omega), s5 _ (by omega) (by omega) (by omega) (by omega) (by omega) (by omega)]; exact dd.1 w hw
        · have d2' := dd.2
          unfold rsN at d2' ⊢
          rw [s5 _ (by omega) (by omega) (by omega) (by omega) (by omega) (by omega), s5 _ (by omega) (by omega) (by omega) (by omega) (by omega) (by omega), s5 _ (by omega) (by omega) (by omega) (by omega) (by omega) (by omega), s5 _ (by omega) (by omega) (by omega) (by omega) (by omega) (by omega), s5 _ (by omega) (by omega) (by omega) (by omega) (by omega) (by omega), s5 _ (by omega) (by omega) (by omega) (by omega) (by omega) (by omega)]
          exact d2'
    · rw [y3 r p1 p2, fc7.1 r p1 p3, fc6.1 r p1 p3, fc5.1 r p1 p3, fc4.1 r p1 p3, fc3.1 r p1 p3, fc2.1 r p1 p3, za.1 r p1]
    · rw [y4 10 (by omega) (by omega) (by omega), fc7.2.2 10 (by omega) (by omega) (by omega), fc6.2.2 10 (by omega) (by omega) (by omega), fc5.2.2 10 (by omega) (by omega) (by omega), fc4.2.2 10 (by omega) (by omega) (by omega), fc3.2.2 10 (by omega) (by omega) (by omega), fc2.2.2 10 (by omega) (by omega) (by omega), za.2 10 (by omega) (by omega) (by omega)]
    · rw [y5.1 r p1, u_r p2, fm7.1 r p1 p3, fm6.1 r p1 p3, fm5.1 r p1 p3, fm4.1 r p1 p3, fm3.1 r p1 p3, fm2.1 r p1 p3, zm.1 r p1]
    · rw [y5.1 202 (by omega), u_k hk, m7]
    · rw [y5.2 19 (by omega), u_r (by omega), fm7.2.2 19 (by omega) (by omega), fm6.2.2 19 (by omega) (by omega), fm5.2.2 19 (by omega) (by omega), fm4.2.2 19 (by omega) (by omega), fm3.2.2 19 (by omega) (by omega), fm2.2.2 19 (by omega) (by omega), zm.2 19 (by omega)]
theorem L_floor (h : STT T N p I0 M0 I M) (hw0 : isW T N p 0 = false) (hw1 : isW T N p 1 = false) (hw2 : isW T N p 2 = false) (hw3 : isW T N p 3 = false) (hw4 : isW T N p 4 = true) {s : Nat} (hs : s < 16) (s1 : I 1 10 = nI s) (s2 : M 200 19 = nI s) (d : dS (I 13) (I 14) (M 202)) : LK I0 M0 J x J' x' ((dd_X7_statement 1 (S0, I, J, x)).bind clC) ((dd_X12_statement 200 (S0, M, J', x')).bind clK) (fun I' M' => (∃ p', p < p' ∧ STT T N p' I0 M0 I' M') ∧ dS (I' 13) (I' 14) (M' 202) ∧ (∀ r, r ≠ 1 → r ≠ 14 → I' r = I r) ∧ (∃ s', s' < 16 ∧ I' 1 10 = nI s' ∧ M' 200 19 = nI s') ∧ (∀ r, r ≠ 200 → r ≠ 202 → M' r = M r) ∧ (∀ k, k < 11 → M' 202 k = M 202 k)) := by
  obtain ⟨d0, d1, d2, d3, d4, d5, d6⟩ := d
  have cw0 : dd_X7_isWord 1 1000 (S0, I, J, x) = some (0, (S0, I, J, x)) := by
    have q := c_isWord (J := J) (x := x) h.1 (i := 0) (by omega)
    rw [hw0] at q; exact q
  have mw0 : dd_X12_isWord 200 1024 (S0, M, J', x') = some (0, (S0, M, J', x')) := by
    have q := m_isWord (J := J') (x := x') h.2.1 (i := 12) (by omega)
    rw [isW_12 (i := 0) (by omega), hw0] at q; exact q
  have cw1 : dd_X7_isWord 1 1002 (S0, I, J, x) = some (0, (S0, I, J, x)) := by
    have q := c_isWord (J := J) (x := x) h.1 (i := 1) (by omega)
    rw [hw1] at q; exact q
  have mw1 : dd_X12_isWord 200 1026 (S0, M, J', x') = some (0, (S0, M, J', x')) := by
    have q := m_isWord (J := J') (x := x') h.2.1 (i := 13) (by omega)
    rw [isW_12 (i := 1) (by omega), hw1] at q; exact q
  have cw2 : dd_X7_isWord 1 1004 (S0, I, J, x) = some (0, (S0, I, J, x)) := by
    have q := c_isWord (J := J) (x := x) h.1 (i := 2) (by omega)
    rw [hw2] at q; exact q
  have mw2 : dd_X12_isWord 200 1028 (S0, M, J', x') = some (0, (S0, M, J', x')) := by
    have q := m_isWord (J := J') (x := x') h.2.1 (i := 14) (by omega)
    rw [isW_12 (i := 2) (by omega), hw2] at q; exact q
  have cw3 : dd_X7_isWord 1 1006 (S0, I, J, x) = some (0, (S0, I, J, x)) := by
    have q := c_isWord (J := J) (x := x) h.1 (i := 3) (by omega)
    rw [hw3] at q; exact q
  have mw3 : dd_X12_isWord 200 1030 (S0, M, J', x') = some (0, (S0, M, J', x')) := by
    have q := m_isWord (J := J') (x := x') h.2.1 (i := 15) (by omega)
    rw [isW_12 (i := 3) (by omega), hw3] at q; exact q
  have cw4 : dd_X7_isWord 1 1008 (S0, I, J, x) = some (1, (S0, I, J, x)) := by
    have q := c_isWord (J := J) (x := x) h.1 (i := 4) (by omega)
    rw [hw4] at q; exact q
  have mw4 : dd_X12_isWord 200 1032 (S0, M, J', x') = some (1, (S0, M, J', x')) := by
    have q := m_isWord (J := J') (x := x') h.2.1 (i := 16) (by omega)
    rw [isW_12 (i := 4) (by omega), hw4] at q; exact q
  have htk : tk T N p ≠ 0 := by
    intro z
    unfold isW at hw4
    rw [if_neg (by omega)] at hw4
    cases hw4
  have hp := h.1.2.1
  have hT := h.2.1.1.2.1
  have hpn := (nxt_le (T := T) hp).2.2 htk
  have cR : ∀ (Ia : Nat → Nat → Int32), ab_fR (S0, Ia, J, x) 7 1 3 = some 4 := fun _ => fR_X7_3 okR
  have c0 : ∀ (Ia : Nat → Nat → Int32), ab_fR (S0, Ia, J, x) 1 4 4 = some 13 := fun _ => op_fR (fs := [some (some 5), some (some 7), some (some 9), some (some 11), some (some 13), some (some 15)]) rfl rfl
  unfold dd_X7_statement dd_X12_statement
  rw [r_rc, ob_s, cw0, ob_s, if_pos rfl, r_rc, ob_s, cw1, ob_s, if_pos rfl, r_rc, ob_s, cw2, ob_s, if_pos rfl, r_rc, ob_s, cw3, ob_s, if_pos rfl, r_rc, ob_s, cw4, ob_s, if_neg n10, r_rc, ob_s]
  rw [m_rc, ob_s, mw0, ob_s, if_pos rfl, m_rc, ob_s, mw1, ob_s, if_pos rfl, m_rc, ob_s, mw2, ob_s, if_pos rfl, m_rc, ob_s, mw3, ob_s, if_pos rfl, m_rc, ob_s, mw4, ob_s, if_neg n10, m_rc, ob_s]
  dsimp only
  refine LK_bindB (L_first (b := 0) h (by omega) hs s1 s2 (li_n 1) (li_n 0)) (fun I => ?_) (fun M => ?_) (fun I1 M1 z1 => ?_)
  · dsimp only; rw [if_pos rfl, bb_X7_statement_301, bb_X7_statement_302, h01, if_neg (by simp), ob_s]; exact clC0 I
  · dsimp only; rw [if_pos rfl, bb_X12_statement_307, bb_X12_statement_308, h01, if_neg (by simp), ob_s]; exact clK0 M
  obtain ⟨z1, za, zb, zc, zd, _⟩ := z1
  have hp1 := z1.1.2.1
  dsimp only
  rw [if_neg n10, cR, ob_s, c0, ob_s, r_rc, ob_s, if_neg n10, m_rc, ob_s]
  refine LK_bindB (L_sets (col := 0) z1 1 100 (by rw [zc 13 (by omega)]; exact d0) (li_n 0) (by omega) (li_n 4)) (fun I => ?_) (fun M => ?_) (fun I2 M2 z2 => ?_)
  · dsimp only; rw [if_pos rfl, bb_X7_statement_301, bb_X7_statement_302, h01, if_neg (by simp), ob_s]; exact clC0 I
  · dsimp only; rw [if_pos rfl, bb_X12_statement_307, bb_X12_statement_308, h01, if_neg (by simp), ob_s]; exact clK0 M
  obtain ⟨z2, t2, v2, w2, l2, u2, fc2, fm2⟩ := z2
  have hp2 := z2.1.2.1
  dsimp only
  rw [if_neg n10, bb_X7_statement_302, h11, if_neg (by simp), ob_s, clC1]
  rw [if_neg n10, bb_X12_statement_308, h11, if_neg (by simp), ob_s, clK1]
  refine LK_weak (L_sign z2 s59) (fun Iz Mz zz => ?_)
  · obtain ⟨y1, _, y3, y5⟩ := zz
    have a1 := nxt_le (T := T) hp1
    have b1 := stt_le (T := T) hp1
    have a2 := nxt_le (T := T) hp2
    have b2 := stt_le (T := T) hp2
    have q0 : isr (vlN T N (nxt T N p)) 1 100 := isr_vl hT hp1 t2 (by omega) (by omega) l2 u2
    have r5 : ∀ j, j ≠ 0 → Iz 14 j = I 14 j := fun j g => by rw [y3.1 14 (by omega), fc2.2.1 j g, zc 14 (by omega)]
    have r50 : Iz 14 0 = vlN T N (nxt T N p) := by rw [y3.1 14 (by omega)]; exact v2
    have s5 : ∀ j, j ≠ 11 → Mz 202 j = M 202 j := fun j g => by rw [y5.1 202 (by omega), fm2.2.1 j g, zd 202 (by omega)]
    have s50 : Mz 202 11 = vlN T N (nxt T N p) := by rw [y5.1 202 (by omega)]; exact w2
    refine ⟨⟨_, by omega, y1⟩, ?_, fun r p1 p2 => ?_, ⟨s ||| 2 ^ 0, (sn_all 0 (by omega) s hs).2.2.2, ?_, ?_⟩, fun r p1 p2 => ?_, fun k hk => s5 k (by omega)⟩
    · unfold dS
      rw [y3.1 13 (by omega), fc2.1 13 (by omega) (by omega), zc 13 (by omega), r50, s50, r5 1 (by omega), s5 12 (by omega), r5 2 (by omega), s5 13 (by omega)]
      exact ⟨d0, rfl, d2, d3, q0, d5, d6⟩
    · rw [y3.1 r p1, fc2.1 r p1 p2, zc r p1]
    · rw [y3.2 10 (by omega) (by omega) (by omega), fc2.2.2 10 (by omega) (by omega) (by omega)]; exact za
    · rw [y5.2 19 (by omega), fm2.2.2 19 (by omega) (by omega)]; exact zb
    · rw [y5.1 r p1, fm2.1 r p1 p2, zd r p1]
theorem L_notice (h : STT T N p I0 M0 I M) (hw0 : isW T N p 0 = false) (hw1 : isW T N p 1 = false) (hw2 : isW T N p 2 = false) (hw3 : isW T N p 3 = false) (hw4 : isW T N p 4 = false) (hw5 : isW T N p 5 = true) {s : Nat} (hs : s < 16) (s1 : I 1 10 = nI s) (s2 : M 200 19 = nI s) (d : dS (I 13) (I 14) (M 202)) : LK I0 M0 J x J' x' ((dd_X7_statement 1 (S0, I, J, x)).bind clC) ((dd_X12_statement 200 (S0, M, J', x')).bind clK) (fun I' M' => (∃ p', p < p' ∧ STT T N p' I0 M0 I' M') ∧ dS (I' 13) (I' 14) (M' 202) ∧ (∀ r, r ≠ 1 → r ≠ 14 → I' r = I r) ∧ (∃ s', s' < 16 ∧ I' 1 10 = nI s' ∧ M' 200 19 = nI s') ∧ (∀ r, r ≠ 200 → r ≠ 202 → M' r = M r) ∧ (∀ k, k < 11 → M' 202 k = M 202 k)) := by
  obtain ⟨d0, d1, d2, d3, d4, d5, d6⟩ := d
  have cw0 : dd_X7_isWord 1 1000 (S0, I, J, x) = some (0, (S0, I, J, x)) := by
    have q := c_isWord (J := J) (x := x) h.1 (i := 0) (by omega)
    rw [hw0] at q; exact q
  have mw0 : dd_X12_isWord 200 1024 (S0, M, J', x') = some (0, (S0, M, J', x')) := by
    have q := m_isWord (J := J') (x := x') h.2.1 (i := 12) (by omega)
    rw [isW_12 (i := 0) (by omega), hw0] at q; exact q
  have cw1 : dd_X7_isWord 1 1002 (S0, I, J, x) = some (0, (S0, I, J, x)) := by
    have q := c_isWord (J := J) (x := x) h.1 (i := 1) (by omega)
    rw [hw1] at q; exact q
  have mw1 : dd_X12_isWord 200 1026 (S0, M, J', x') = some (0, (S0, M, J', x')) := by
    have q := m_isWord (J := J') (x := x') h.2.1 (i := 13) (by omega)
    rw [isW_12 (i := 1) (by omega), hw1] at q; exact q
  have cw2 : dd_X7_isWord 1 1004 (S0, I, J, x) = some (0, (S0, I, J, x)) := by
    have q := c_isWord (J := J) (x := x) h.1 (i := 2) (by omega)
    rw [hw2] at q; exact q
  have mw2 : dd_X12_isWord 200 1028 (S0, M, J', x') = some (0, (S0, M, J', x')) := by
    have q := m_isWord (J := J') (x := x') h.2.1 (i := 14) (by omega)
    rw [isW_12 (i := 2) (by omega), hw2] at q; exact q
  have cw3 : dd_X7_isWord 1 1006 (S0, I, J, x) = some (0, (S0, I, J, x)) := by
    have q := c_isWord (J := J) (x := x) h.1 (i := 3) (by omega)
    rw [hw3] at q; exact q
  have mw3 : dd_X12_isWord 200 1030 (S0, M, J', x') = some (0, (S0, M, J', x')) := by
    have q := m_isWord (J := J') (x := x') h.2.1 (i := 15) (by omega)
    rw [isW_12 (i := 3) (by omega), hw3] at q; exact q
  have cw4 : dd_X7_isWord 1 1008 (S0, I, J, x) = some (0, (S0, I, J, x)) := by
    have q := c_isWord (J := J) (x := x) h.1 (i := 4) (by omega)
    rw [hw4] at q; exact q
  have mw4 : dd_X12_isWord 200 1032 (S0, M, J', x') = some (0, (S0, M, J', x')) := by
    have q := m_isWord (J := J') (x := x') h.2.1 (i := 16) (by omega)
    rw [isW_12 (i := 4) (by omega), hw4] at q; exact q
  have cw5 : dd_X7_isWord 1 1010 (S0, I, J, x) = some (1, (S0, I, J, x)) := by
    have q := c_isWord (J := J) (x := x) h.1 (i := 5) (by omega)
    rw [hw5] at q; exact q
  have mw5 : dd_X12_isWord 200 1034 (S0, M, J', x') = some (1, (S0, M, J', x')) := by
    have q := m_isWord (J := J') (x := x') h.2.1 (i := 17) (by omega)
    rw [isW_12 (i := 5) (by omega), hw5] at q; exact q
  have htk : tk T N p ≠ 0 := by
    intro z
    unfold isW at hw5
    rw [if_neg (by omega)] at hw5
    cases hw5
  have hp := h.1.2.1
  have hT := h.2.1.1.2.1
  have hpn := (nxt_le (T := T) hp).2.2 htk
  have cR : ∀ (Ia : Nat → Nat → Int32), ab_fR (S0, Ia, J, x) 7 1 3 = some 4 := fun _ => fR_X7_3 okR
  have c0 : ∀ (Ia : Nat → Nat → Int32), ab_fR (S0, Ia, J, x) 1 4 4 = some 13 := fun _ => op_fR (fs := [some (some 5), some (some 7), some (some 9), some (some 11), some (some 13), some (some 15)]) rfl rfl
  unfold dd_X7_statement dd_X12_statement
  rw [r_rc, ob_s, cw0, ob_s, if_pos rfl, r_rc, ob_s, cw1, ob_s, if_pos rfl, r_rc, ob_s, cw2, ob_s, if_pos rfl, r_rc, ob_s, cw3, ob_s, if_pos rfl, r_rc, ob_s, cw4, ob_s, if_pos rfl, r_rc, ob_s, cw5, ob_s, if_neg n10, r_rc, ob_s]
  rw [m_rc, ob_s, mw0, ob_s, if_pos rfl, m_rc, ob_s, mw1, ob_s, if_pos rfl, m_rc, ob_s, mw2, ob_s, if_pos rfl, m_rc, ob_s, mw3, ob_s, if_pos rfl, m_rc, ob_s, mw4, ob_s, if_pos rfl, m_rc, ob_s, mw5, ob_s, if_neg n10, m_rc, ob_s]
  dsimp only
  refine LK_bindB (L_first (b := 1) h (by omega) hs s1 s2 (li_n 2) (li_n 1)) (fun I => ?_) (fun M => ?_) (fun I1 M1 z1 => ?_)
  · dsimp only; rw [if_pos rfl, bb_X7_statement_342, bb_X7_statement_343, h01, if_neg (by simp), ob_s]; exact clC0 I
  · dsimp only; rw [if_pos rfl, bb_X12_statement_341, bb_X12_statement_342, h01, if_neg (by simp), ob_s]; exact clK0 M
  obtain ⟨z1, za, zb, zc, zd, _⟩ := z1
  have hp1 := z1.1.2.1
  dsimp only
  rw [if_neg n10, cR, ob_s, c0, ob_s, r_rc, ob_s, if_neg n10, m_rc, ob_s]
  refine LK_bindB (L_sets (col := 1) z1 0 48 (by rw [zc 13 (by omega)]; exact d0) (li_n 1) (by omega) (li_n 5)) (fun I => ?_) (fun M => ?_) (fun I2 M2 z2 => ?_)
  · dsimp only; rw [if_pos rfl, bb_X7_statement_342, bb_X7_statement_343, h01, if_neg (by simp), ob_s]; exact clC0 I
  · dsimp only; rw [if_pos rfl, bb_X12_statement_341, bb_X12_statement_342, h01, if_neg (by simp), ob_s]; exact clK0 M
  obtain ⟨z2, t2, v2, w2, l2, u2, fc2, fm2⟩ := z2
  have hp2 := z2.1.2.1
  dsimp only
  rw [if_neg n10, bb_X7_statement_343, h11, if_neg (by simp), ob_s, clC1]
  rw [if_neg n10, bb_X12_statement_342, h11, if_neg (by simp), ob_s, clK1]
  refine LK_weak (L_sign z2 s59) (fun Iz Mz zz => ?_)
  · obtain ⟨y1, _, y3, y5⟩ := zz
    have a1 := nxt_le (T := T) hp1
    have b1 := stt_le (T := T) hp1
    have a2 := nxt_le (T := T) hp2
    have b2 := stt_le (T := T) hp2
    have q0 : isr (vlN T N (nxt T N p)) 0 48 := isr_vl hT hp1 t2 (by omega) (by omega) l2 u2
    have r5 : ∀ j, j ≠ 1 → Iz 14 j = I 14 j := fun j g => by rw [y3.1 14 (by omega), fc2.2.1 j g, zc 14 (by omega)]
    have r50 : Iz 14 1 = vlN T N (nxt T N p) := by rw [y3.1 14 (by omega)]; exact v2
    have s5 : ∀ j, j ≠ 12 → Mz 202 j = M 202 j := fun j g => by rw [y5.1 202 (by omega), fm2.2.1 j g, zd 202 (by omega)]
    have s50 : Mz 202 12 = vlN T N (nxt T N p) := by rw [y5.1 202 (by omega)]; exact w2
    refine ⟨⟨_, by omega, y1⟩, ?_, fun r p1 p2 => ?_, ⟨s ||| 2 ^ 1, (sn_all 1 (by omega) s hs).2.2.2, ?_, ?_⟩, fun r p1 p2 => ?_, fun k hk => s5 k (by omega)⟩
    · unfold dS
      rw [y3.1 13 (by omega), fc2.1 13 (by omega) (by omega), zc 13 (by omega), r5 0 (by omega), s5 11 (by omega), r50, s50, r5 2 (by omega), s5 13 (by omega)]
      exact ⟨d0, d1, rfl, d3, d4, q0, d6⟩
    · rw [y3.1 r p1, fc2.1 r p1 p2, zc r p1]
    · rw [y3.2 10 (by omega) (by omega) (by omega), fc2.2.2 10 (by omega) (by omega) (by omega)]; exact za
    · rw [y5.2 19 (by omega), fm2.2.2 19 (by omega) (by omega)]; exact zb
    · rw [y5.1 r p1, fm2.1 r p1 p2, zd r p1]
theorem L_slope (h : STT T N p I0 M0 I M) (hw0 : isW T N p 0 = false) (hw1 : isW T N p 1 = false) (hw2 : isW T N p 2 = false) (hw3 : isW T N p 3 = false) (hw4 : isW T N p 4 = false) (hw5 : isW T N p 5 = false) (hw6 : isW T N p 6 = true) {s : Nat} (hs : s < 16) (s1 : I 1 10 = nI s) (s2 : M 200 19 = nI s) (d : dS (I 13) (I 14) (M 202)) : LK I0 M0 J x J' x' ((dd_X7_statement 1 (S0, I, J, x)).bind clC) ((dd_X12_statement 200 (S0, M, J', x')).bind clK) (fun I' M' => (∃ p', p < p' ∧ STT T N p' I0 M0 I' M') ∧ dS (I' 13) (I' 14) (M' 202) ∧ (∀ r, r ≠ 1 → r ≠ 14 → I' r = I r) ∧ (∃ s', s' < 16 ∧ I' 1 10 = nI s' ∧ M' 200 19 = nI s') ∧ (∀ r, r ≠ 200 → r ≠ 202 → M' r = M r) ∧ (∀ k, k < 11 → M' 202 k = M 202 k)) := by
  obtain ⟨d0, d1, d2, d3, d4, d5, d6⟩ := d
  have cw0 : dd_X7_isWord 1 1000 (S0, I, J, x) = some (0, (S0, I, J, x)) := by
    have q := c_isWord (J := J) (x := x) h.1 (i := 0) (by omega)
    rw [hw0] at q; exact q
  have mw0 : dd_X12_isWord 200 1024 (S0, M, J', x') = some (0, (S0, M, J', x')) := by
    have q := m_isWord (J := J') (x := x') h.2.1 (i := 12) (by omega)
    rw [isW_12 (i := 0) (by omega), hw0] at q; exact q
  have cw1 : dd_X7_isWord 1 1002 (S0, I, J, x) = some (0, (S0, I, J, x)) := by
    have q := c_isWord (J := J) (x := x) h.1 (i := 1) (by omega)
    rw [hw1] at q; exact q
  have mw1 : dd_X12_isWord 200 1026 (S0, M, J', x') = some (0, (S0, M, J', x')) := by
    have q := m_isWord (J := J') (x := x') h.2.1 (i := 13) (by omega)
    rw [isW_12 (i := 1) (by omega), hw1] at q; exact q
  have cw2 : dd_X7_isWord 1 1004 (S0, I, J, x) = some (0, (S0, I, J, x)) := by
    have q := c_isWord (J := J) (x := x) h.1 (i := 2) (by omega)
    rw [hw2] at q; exact q
  have mw2 : dd_X12_isWord 200 1028 (S0, M, J', x') = some (0, (S0, M, J', x')) := by
    have q := m_isWord (J := J') (x := x') h.2.1 (i := 14) (by omega)
    rw [isW_12 (i := 2) (by omega), hw2] at q; exact q
  have cw3 : dd_X7_isWord 1 1006 (S0, I, J, x) = some (0, (S0, I, J, x)) := by
    have q := c_isWord (J := J) (x := x) h.1 (i := 3) (by omega)
    rw [hw3] at q; exact q
  have mw3 : dd_X12_isWord 200 1030 (S0, M, J', x') = some (0, (S0, M, J', x')) := by
    have q := m_isWord (J := J') (x := x') h.2.1 (i := 15) (by omega)
    rw [isW_12 (i := 3) (by omega), hw3] at q; exact q
  have cw4 : dd_X7_isWord 1 1008 (S0, I, J, x) = some (0, (S0, I, J, x)) := by
    have q := c_isWord (J := J) (x := x) h.1 (i := 4) (by omega)
    rw [hw4] at q; exact q
  have mw4 : dd_X12_isWord 200 1032 (S0, M, J', x') = some (0, (S0, M, J', x')) := by
    have q := m_isWord (J := J') (x := x') h.2.1 (i := 16) (by omega)
    rw [isW_12 (i := 4) (by omega), hw4] at q; exact q
  have cw5 : dd_X7_isWord 1 1010 (S0, I, J, x) = some (0, (S0, I, J, x)) := by
    have q := c_isWord (J := J) (x := x) h.1 (i := 5) (by omega)
    rw [hw5] at q; exact q
  have mw5 : dd_X12_isWord 200 1034 (S0, M, J', x') = some (0, (S0, M, J', x')) := by
    have q := m_isWord (J := J') (x := x') h.2.1 (i := 17) (by omega)
    rw [isW_12 (i := 5) (by omega), hw5] at q; exact q
  have cw6 : dd_X7_isWord 1 1012 (S0, I, J, x) = some (1, (S0, I, J, x)) := by
    have q := c_isWord (J := J) (x := x) h.1 (i := 6) (by omega)
    rw [hw6] at q; exact q
  have mw6 : dd_X12_isWord 200 1036 (S0, M, J', x') = some (1, (S0, M, J', x')) := by
    have q := m_isWord (J := J') (x := x') h.2.1 (i := 18) (by omega)
    rw [isW_12 (i := 6) (by omega), hw6] at q; exact q
  have htk : tk T N p ≠ 0 := by
    intro z
    unfold isW at hw6
    rw [if_neg (by omega)] at hw6
    cases hw6
  have hp := h.1.2.1
  have hT := h.2.1.1.2.1
  have hpn := (nxt_le (T := T) hp).2.2 htk
  have cR : ∀ (Ia : Nat → Nat → Int32), ab_fR (S0, Ia, J, x) 7 1 3 = some 4 := fun _ => fR_X7_3 okR
  have c0 : ∀ (Ia : Nat → Nat → Int32), ab_fR (S0, Ia, J, x) 1 4 4 = some 13 := fun _ => op_fR (fs := [some (some 5), some (some 7), some (some 9), some (some 11), some (some 13), some (some 15)]) rfl rfl
  unfold dd_X7_statement dd_X12_statement
  rw [r_rc, ob_s, cw0, ob_s, if_pos rfl, r_rc, ob_s, cw1, ob_s, if_pos rfl, r_rc, ob_s, cw2, ob_s, if_pos rfl, r_rc, ob_s, cw3, ob_s, if_pos rfl, r_rc, ob_s, cw4, ob_s, if_pos rfl, r_rc, ob_s, cw5, ob_s, if_pos rfl, r_rc, ob_s, cw6, ob_s, if_neg n10, r_rc, ob_s]
  rw [m_rc, ob_s, mw0, ob_s, if_pos rfl, m_rc, ob_s, mw1, ob_s, if_pos rfl, m_rc, ob_s, mw2, ob_s, if_pos rfl, m_rc, ob_s, mw3, ob_s, if_pos rfl, m_rc, ob_s, mw4, ob_s, if_pos rfl, m_rc, ob_s, mw5, ob_s, if_pos rfl, m_rc, ob_s, mw6, ob_s, if_neg n10, m_rc, ob_s]
  dsimp only
  refine LK_bindB (L_first (b := 2) h (by omega) hs s1 s2 (li_n 4) (li_n 2)) (fun I => ?_) (fun M => ?_) (fun I1 M1 z1 => ?_)
  · dsimp only; rw [if_pos rfl, bb_X7_statement_384, bb_X7_statement_385, h01, if_neg (by simp), ob_s]; exact clC0 I
  · dsimp only; rw [if_pos rfl, bb_X12_statement_377, bb_X12_statement_378, h01, if_neg (by simp), ob_s]; exact clK0 M
  obtain ⟨z1, za, zb, zc, zd, _⟩ := z1
  have hp1 := z1.1.2.1
  dsimp only
  rw [if_neg n10, cR, ob_s, c0, ob_s, r_rc, ob_s, if_neg n10, m_rc, ob_s]
  refine LK_bindB (L_sets (col := 2) z1 0 400 (by rw [zc 13 (by omega)]; exact d0) (li_n 2) (by omega) (li_n 6)) (fun I => ?_) (fun M => ?_) (fun I2 M2 z2 => ?_)
  · dsimp only; rw [if_pos rfl, bb_X7_statement_384, bb_X7_statement_385, h01, if_neg (by simp), ob_s]; exact clC0 I
  · dsimp only; rw [if_pos rfl, bb_X12_statement_377, bb_X12_statement_378, h01, if_neg (by simp), ob_s]; exact clK0 M
  obtain ⟨z2, t2, v2, w2, l2, u2, fc2, fm2⟩ := z2
  have hp2 := z2.1.2.1
  dsimp only
  rw [if_neg n10, bb_X7_statement_385, h11, if_neg (by simp), ob_s, clC1]
  rw [if_neg n10, bb_X12_statement_378, h11, if_neg (by simp), ob_s, clK1]
  refine LK_weak (L_sign z2 s59) (fun Iz Mz zz => ?_)
  · obtain ⟨y1, _, y3, y5⟩ := zz
    have a1 := nxt_le (T := T) hp1
    have b1 := stt_le (T := T) hp1
    have a2 := nxt_le (T := T) hp2
    have b2 := stt_le (T := T) hp2
    have q0 : isr (vlN T N (nxt T N p)) 0 400 := isr_vl hT hp1 t2 (by omega) (by omega) l2 u2
    have r5 : ∀ j, j ≠ 2 → Iz 14 j = I 14 j := fun j g => by rw [y3.1 14 (by omega), fc2.2.1 j g, zc 14 (by omega)]
    have r50 : Iz 14 2 = vlN T N (nxt T N p) := by rw [y3.1 14 (by omega)]; exact v2
    have s5 : ∀ j, j ≠ 13 → Mz 202 j = M 202 j := fun j g => by rw [y5.1 202 (by omega), fm2.2.1 j g, zd 202 (by omega)]
    have s50 : Mz 202 13 = vlN T N (nxt T N p) := by rw [y5.1 202 (by omega)]; exact w2
    refine ⟨⟨_, by omega, y1⟩, ?_, fun r p1 p2 => ?_, ⟨s ||| 2 ^ 2, (sn_all 2 (by omega) s hs).2.2.2, ?_, ?_⟩, fun r p1 p2 => ?_, fun k hk => s5 k (by omega)⟩
    · unfold dS
      rw [y3.1 13 (by omega), fc2.1 13 (by omega) (by omega), zc 13 (by omega), r5 0 (by omega), s5 11 (by omega), r5 1 (by omega), s5 12 (by omega), r50, s50]
      exact ⟨d0, d1, d2, rfl, d4, d5, q0⟩
    · rw [y3.1 r p1, fc2.1 r p1 p2, zc r p1]
    · rw [y3.2 10 (by omega) (by omega) (by omega), fc2.2.2 10 (by omega) (by omega) (by omega)]; exact za
    · rw [y5.2 19 (by omega), fm2.2.2 19 (by omega) (by omega)]; exact zb
    · rw [y5.1 r p1, fm2.1 r p1 p2, zd r p1]
end S2
