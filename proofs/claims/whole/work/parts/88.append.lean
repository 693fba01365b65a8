/-! ===== errorPosition and append ===== -/
section AP
variable {I I' I0 I1 I2 I3 I4 : Nat → Nat → Int32} {J J' J1 J2 J3 J4 : Nat → Nat → Int64} {x : Nat} {NH NY NE NR s d u tp u' tp' n : Nat} {f g f' : Nat → Int64} {H S H' : Nat → Nat → Int64} {b : Nat → Bool}
theorem okR : ok_X7 1 := rfl
theorem sh_2 : S0[2]? = some (2, 800, []) := rfl
theorem sh_207 : S0[209]? = some (2, 800, []) := rfl
theorem c_R0 : ab_fR (S0, I, J, x) 11 0 0 = some 1 := op_fR okC rfl
theorem r_rc : ab_rc (S0, I, J, x) 7 1 = some () := rc_X7 okR
theorem r_f0 : ab_fR (S0, I, J, x) 7 1 0 = some 2 := fR_X7_0 okR
theorem r_f1 : ab_fI (S0, I, J, x) 7 1 1 = some (I 1 1) := fI_X7_1 okR
theorem r_f3 : ab_fI (S0, I, J, x) 7 1 4 = some (I 1 4) := fI_X7_4 okR
theorem m_F10 : ab_fI (S0, I, J, x) 12 200 10 = some (I 200 10) := fI_X12_10 okM
theorem m_F17 : ab_fI (S0, I, J, x) 12 200 17 = some (I 200 17) := fI_X12_17 okM
theorem a_errorPosition (hi : Inv I J) : Cal0 (dd_X11_errorPosition 0) (dd_X12_errorPosition 200) I J x := by
  obtain ⟨NH, NY, NE, NR, f, u, tp, H, b, S, w, c, m, rd⟩ := id hi
  obtain ⟨n, n8, r1, r2, r3, r4⟩ := rd.2
  refine ⟨I 1 4, I, J, th I 0, J, ?_, ?_, Inv_kp hi (kp_th (kp_refl c.2.1) 0) kpJ_refl⟩
  · unfold dd_X11_errorPosition
    rw [c_R0, ob_s, r_f3, ob_s]
  · unfold dd_X12_errorPosition
    rw [m_P0, ob_s, m_F17, ob_s, th_offk _ (by omega), r4]
/-- a byte of a word -/
def bt (w s : Int32) : Int32 := ((w >>> (s &&& 31)).toInt8.toInt32).toInt8.toInt32
theorem bt_rg (w s : Int32) : -128 ≤ (bt w s).toInt ∧ (bt w s).toInt ≤ 127 := by
  unfold bt
  rw [Int8.toInt_toInt32]
  have h1 := Int8.le_toInt ((w >>> (s &&& 31)).toInt8.toInt32.toInt8)
  have h2 := Int8.toInt_lt ((w >>> (s &&& 31)).toInt8.toInt32.toInt8)
  omega
theorem c_put1 {fu k : Nat} {w l : Int32} (hk : I 1 1 = nI k) (h8 : k < 800) (hl : ¬ l < 0) : bb_X7_putWord_3 (fu + 1) 1 w l (S0, I, J, x) = bb_X7_putWord_3 fu 1 w (l + -8) (S0, ab_u (ab_u I 2 k (bt w l)) 1 1 (nI (k + 1)), J, x) := by
  have e : ab_u I 2 k (bt w l) 1 1 = nI k := by rw [u_r (by omega)]; exact hk
  rw [bb_X7_putWord_3, if_neg hl, r_f1, ob_s, hk, if_neg (li_pos (by omega)), ob_s, r_f0, ob_s, op_len sh_2, ob_s, if_neg (by rw [li_le (by omega) (by omega)]; omega), ob_s, ob_s, op_st _ sh_2 rfl h8 (by omega), ob_s, r_f1, ob_s]
  show ((ab_pI (S0, ab_u I 2 k (bt w l), J, x) 7 1 1 (ab_u I 2 k (bt w l) 1 1 + 1)).bind _) = _
  rw [e, nI_1, pI_X7_1 okR, ob_s]
  rfl
theorem m_put1 {fu k : Nat} {w l : Int32} (hk : I 200 10 = nI k) (h8 : k < 800) (hl : ¬ l < 0) : bb_X12_bytesOf_3 (fu + 1) 200 w l (S0, I, J, x) = bb_X12_bytesOf_3 fu 200 w (l + -8) (S0, ab_u (ab_u I 209 k (bt w l)) 200 10 (nI (k + 1)), J, x) := by
  have e : ab_u I 209 k (bt w l) 200 10 = nI k := by rw [u_r (by omega)]; exact hk
  rw [bb_X12_bytesOf_3, if_neg hl, m_R9, ob_s, m_F10, ob_s, hk, op_st _ sh_207 rfl h8 (by omega), ob_s, m_F10, ob_s]
  show ((ab_pI (S0, ab_u I 209 k (bt w l), J, x) 12 200 10 (ab_u I 209 k (bt w l) 200 10 + 1)).bind _) = _
  rw [e, nI_1, pI_X12_10 okM, ob_s]
def shf (t : Nat) : Int32 := nI (24 - 8 * t)
/-- a word's bytes are put behind the others -/
theorem c_putWord {k : Nat} (w : Int32) (hk : I 1 1 = nI k) (h8 : k + 4 ≤ 800) : ∃ I', dd_X7_putWord 1 w (S0, I, J, x) = some ((), (S0, I', J, x)) ∧ (∀ r, r ≠ 1 → r ≠ 2 → I' r = I r) ∧ (∀ j, j ≠ 1 → I' 1 j = I 1 j) ∧ I' 1 1 = nI (k + 4) ∧ (∀ j, j < k → I' 2 j = I 2 j) ∧ ∀ t, t < 4 → I' 2 (k + t) = bt w (shf t) := by
  have loop : ∀ (q fu t : Nat) (I1 : Nat → Nat → Int32), t + q = 4 → q < fu → (∀ r, r ≠ 1 → r ≠ 2 → I1 r = I r) → (∀ j, j ≠ 1 → I1 1 j = I 1 j) → I1 1 1 = nI (k + t) → (∀ j, j < k → I1 2 j = I 2 j) → (∀ i, i < t → I1 2 (k + i) = bt w (shf i)) → ∃ I', bb_X7_putWord_3 fu 1 w (if t < 4 then shf t else -8) (S0, I1, J, x) = some ((), (S0, I', J, x)) ∧ (∀ r, r ≠ 1 → r ≠ 2 → I' r = I r) ∧ (∀ j, j ≠ 1 → I' 1 j = I 1 j) ∧ I' 1 1 = nI (k + 4) ∧ (∀ j, j < k → I' 2 j = I 2 j) ∧ ∀ t, t < 4 → I' 2 (k + t) = bt w (shf t) := by
    intro q
    induction q with
    | zero =>
      intro fu t I1 e1 e2 a1 a2 a3 a4 a5
      obtain ⟨fu, rfl⟩ : ∃ z, fu = z + 1 := ⟨fu - 1, by omega⟩
      have et : t = 4 := by omega
      subst et
      refine ⟨I1, ?_, a1, a2, a3, a4, a5⟩
      rw [if_neg (by omega), bb_X7_putWord_3, if_pos (by decide)]
    | succ q ih =>
      intro fu t I1 e1 e2 a1 a2 a3 a4 a5
      obtain ⟨fu, rfl⟩ : ∃ z, fu = z + 1 := ⟨fu - 1, by omega⟩
      have t4 : t < 4 := by omega
      have hn : shf t + -8 = if t + 1 < 4 then shf (t + 1) else -8 := by
        have : ∀ t, t < 4 → shf t + -8 = if t + 1 < 4 then shf (t + 1) else -8 := by decide
        exact this t t4
      have hp : ¬ shf t < 0 := by
        have : ∀ t, t < 4 → ¬ shf t < 0 := by decide
        exact this t t4
      rw [if_pos t4, c_put1 a3 (by omega) hp, hn]
      refine ih fu (t + 1) _ (by omega) (by omega) (fun r p q => by rw [u_r p, u_r q]; exact a1 r p q) (fun j hj => by rw [u_k hj, u_r (by omega)]; exact a2 j hj) u_e (fun j hj => by rw [u_r (by omega), u_k (by omega)]; exact a4 j hj) (fun i hi => ?_)
      rw [u_r (by omega)]
      by_cases e : i = t
      · rw [e, u_e]
      · rw [u_k (by omega)]; exact a5 i (by omega)
  exact loop 4 ab_fu 0 I (by omega) (ab_fu_big (by omega)) (fun _ _ _ => rfl) (fun _ _ => rfl) hk (fun _ _ => rfl) (fun i hi => by omega)
theorem m_putWord {k : Nat} (w : Int32) (hk : I 200 10 = nI k) (h8 : k + 4 ≤ 800) : ∃ I', dd_X12_bytesOf 200 w (S0, I, J, x) = some ((), (S0, I', J, x)) ∧ (∀ r, r ≠ 200 → r ≠ 209 → I' r = I r) ∧ (∀ j, j ≠ 10 → I' 200 j = I 200 j) ∧ I' 200 10 = nI (k + 4) ∧ (∀ j, j < k → I' 209 j = I 209 j) ∧ ∀ t, t < 4 → I' 209 (k + t) = bt w (shf t) := by
  have loop : ∀ (q fu t : Nat) (I1 : Nat → Nat → Int32), t + q = 4 → q < fu → (∀ r, r ≠ 200 → r ≠ 209 → I1 r = I r) → (∀ j, j ≠ 10 → I1 200 j = I 200 j) → I1 200 10 = nI (k + t) → (∀ j, j < k → I1 209 j = I 209 j) → (∀ i, i < t → I1 209 (k + i) = bt w (shf i)) → ∃ I', bb_X12_bytesOf_3 fu 200 w (if t < 4 then shf t else -8) (S0, I1, J, x) = some ((), (S0, I', J, x)) ∧ (∀ r, r ≠ 200 → r ≠ 209 → I' r = I r) ∧ (∀ j, j ≠ 10 → I' 200 j = I 200 j) ∧ I' 200 10 = nI (k + 4) ∧ (∀ j, j < k → I' 209 j = I 209 j) ∧ ∀ t, t < 4 → I' 209 (k + t) = bt w (shf t) := by
    intro q
    induction q with
    | zero =>
      intro fu t I1 e1 e2 a1 a2 a3 a4 a5
      obtain ⟨fu, rfl⟩ : ∃ z, fu = z + 1 := ⟨fu - 1, by omega⟩
      have et : t = 4 := by omega
      subst et
      refine ⟨I1, ?_, a1, a2, a3, a4, a5⟩
      rw [if_neg (by omega), bb_X12_bytesOf_3, if_pos (by decide)]
    | succ q ih =>
      intro fu t I1 e1 e2 a1 a2 a3 a4 a5
      obtain ⟨fu, rfl⟩ : ∃ z, fu = z + 1 := ⟨fu - 1, by omega⟩
      have t4 : t < 4 := by omega
      have hn : shf t + -8 = if t + 1 < 4 then shf (t + 1) else -8 := by
        have : ∀ t, t < 4 → shf t + -8 = if t + 1 < 4 then shf (t + 1) else -8 := by decide
        exact this t t4
      have hp : ¬ shf t < 0 := by
        have : ∀ t, t < 4 → ¬ shf t < 0 := by decide
        exact this t t4
      rw [if_pos t4, m_put1 a3 (by omega) hp, hn]
      refine ih fu (t + 1) _ (by omega) (by omega) (fun r p q => by rw [u_r p, u_r q]; exact a1 r p q) (fun j hj => by rw [u_k hj, u_r (by omega)]; exact a2 j hj) u_e (fun j hj => by rw [u_r (by omega), u_k (by omega)]; exact a4 j hj) (fun i hi => ?_)
      rw [u_r (by omega)]
      by_cases e : i = t
      · rw [e, u_e]
      · rw [u_k (by omega)]; exact a5 i (by omega)
  exact loop 4 ab_fu 0 I (by omega) (ab_fu_big (by omega)) (fun _ _ _ => rfl) (fun _ _ => rfl) hk (fun _ _ => rfl) (fun i hi => by omega)
/-- bytes of words -/
def wby (ws : Nat → Int32) (j : Nat) : Int32 := bt (ws (j / 4)) (shf (j % 4))
def cWd (I0 : Nat → Nat → Int32) (n : Nat) (ws : Nat → Int32) (q : Nat) (I : Nat → Nat → Int32) : Prop := (∀ r, r ≠ 1 → r ≠ 2 → I r = I0 r) ∧ (∀ j, j ≠ 1 → I 1 j = I0 1 j) ∧ I 1 1 = nI (n + 4 * q) ∧ (∀ j, j < n → I 2 j = I0 2 j) ∧ ∀ j, j < 4 * q → I 2 (n + j) = wby ws j
def mWd (I0 : Nat → Nat → Int32) (n : Nat) (ws : Nat → Int32) (q : Nat) (I : Nat → Nat → Int32) : Prop := (∀ r, r ≠ 200 → r ≠ 209 → I r = I0 r) ∧ (∀ j, j ≠ 10 → I 200 j = I0 200 j) ∧ I 200 10 = nI (n + 4 * q) ∧ (∀ j, j < n → I 209 j = I0 209 j) ∧ ∀ j, j < 4 * q → I 209 (n + j) = wby ws j
theorem cWd_step {n q : Nat} {ws : Nat → Int32} (h : cWd I0 n ws q I) (h8 : n + 4 * q + 4 ≤ 800) : ∃ I', dd_X7_putWord 1 (ws q) (S0, I, J, x) = some ((), (S0, I', J, x)) ∧ cWd I0 n ws (q + 1) I' := by
  obtain ⟨h1, h2, h3, h4, h5⟩ := h
  obtain ⟨I', a1, a2, a3, a4, a5, a6⟩ := @c_putWord I J x (n + 4 * q) (ws q) h3 (by omega)
  refine ⟨I', a1, fun r p q => (a2 r p q).trans (h1 r p q), fun j hj => (a3 j hj).trans (h2 j hj), by rw [a4]; exact congrArg nI (by omega), fun j hj => (a5 j (by omega)).trans (h4 j hj), fun j hj => ?_⟩
  by_cases e : j < 4 * q
  · rw [a5 (n + j) (by omega)]; exact h5 j e
  · have z := a6 (j - 4 * q) (by omega)
    rw [show n + 4 * q + (j - 4 * q) = n + j by omega] at z
    rw [z]
    unfold wby
    rw [show j / 4 = q by omega, show j % 4 = j - 4 * q by omega]
theorem mWd_step {n q : Nat} {ws : Nat → Int32} (h : mWd I0 n ws q I) (h8 : n + 4 * q + 4 ≤ 800) : ∃ I', dd_X12_bytesOf 200 (ws q) (S0, I, J, x) = some ((), (S0, I', J, x)) ∧ mWd I0 n ws (q + 1) I' := by
  obtain ⟨h1, h2, h3, h4, h5⟩ := h
  obtain ⟨I', a1, a2, a3, a4, a5, a6⟩ := @m_putWord I J x (n + 4 * q) (ws q) h3 (by omega)
  refine ⟨I', a1, fun r p q => (a2 r p q).trans (h1 r p q), fun j hj => (a3 j hj).trans (h2 j hj), by rw [a4]; exact congrArg nI (by omega), fun j hj => (a5 j (by omega)).trans (h4 j hj), fun j hj => ?_⟩
  by_cases e : j < 4 * q
  · rw [a5 (n + j) (by omega)]; exact h5 j e
  · have z := a6 (j - 4 * q) (by omega)
    rw [show n + 4 * q + (j - 4 * q) = n + j by omega] at z
    rw [z]
    unfold wby
    rw [show j / 4 = q by omega, show j % 4 = j - 4 * q by omega]
/-- the reader's rows are not the market's -/
theorem Cst_rd (h : Cst I) (h1 : ∀ r, 5 ≤ r → r < 14 → I' r = I r) (h2 : sam 42 200 I I') : Cst I' := by
  obtain ⟨a, a2, a3, a4, a5, a6⟩ := h
  refine ⟨?_, fun k hk => ?_, ?_, ?_, ?_, ?_⟩
  · unfold siI tI at a ⊢
    rw [h2 (42 + 1) (by omega) (by omega), h2 (42 + 3) (by omega) (by omega), h2 (42 + 5) (by omega) (by omega), h2 (42 + 7) (by omega) (by omega)]
    exact a
  · have q := a2 k hk
    unfold siI tI at q ⊢
    rw [h2 (55 + 10 * k + 1) (by omega) (by omega), h2 (55 + 10 * k + 3) (by omega) (by omega), h2 (55 + 10 * k + 5) (by omega) (by omega), h2 (55 + 10 * k + 7) (by omega) (by omega)]
    exact q
  · unfold bI tI at a3 ⊢
    rw [h2 176 (by omega) (by omega), h2 178 (by omega) (by omega)]
    exact a3
  · unfold tI at a4 ⊢
    rw [h2 183 (by omega) (by omega)]
    exact a4
  · unfold tP tI at a5 ⊢
    rw [h2 198 (by omega) (by omega), h2 193 (by omega) (by omega)]
    exact a5
  · unfold clI tI at a6 ⊢
    rw [h1 (4 + 1) (by omega) (by omega), h1 (4 + 3) (by omega) (by omega), h1 (4 + 5) (by omega) (by omega), h1 (4 + 7) (by omega) (by omega), h1 (4 + 9) (by omega) (by omega)]
    exact a6
theorem InvC_rd (h : InvC I J NH NY NE f u tp H b S) (h1 : ∀ r, 4 ≤ r → r < 200 → I' r = I r) (h2 : sam 201 207 I I') (h3 : ∀ r, r < 200 → J' r = J r) : InvC I' J' NH NY NE f u tp H b S := by
  obtain ⟨a, c, e, g⟩ := h
  exact ⟨RS_sam a (fun r q1 q2 => h1 r (by omega) (by omega)) h2 (h3 _ (by omega)), Cst_rd c (fun r q1 q2 => h1 r (by omega) (by omega)) (fun r q1 q2 => h1 r (by omega) (by omega)), HiC_sam e (fun r q1 q2 => h1 r (by omega) (by omega)) h2 (fun r _ _ => h3 r (by omega)), SvC_sam g (by rw [h1 52 (by omega) (by omega)]) (fun r q1 q2 => h1 r (by omega) (by omega)) h2 (fun r _ _ => h3 r (by omega))⟩
theorem a_append (hi : Inv I J) (a b2 c2 d2 e2 : Int32) : Cal0 (dd_X11_append 0 a b2 c2 d2 e2) (dd_X12_append 200 a b2 c2 d2 e2) I J x := by
  obtain ⟨NH, NY, NE, NR, f, u, tp, H, b, S, w, c, m, rd⟩ := id hi
  obtain ⟨n, n8, r1, r2, r3, r4⟩ := rd.2
  have e20 : (nI n + (20 : Int32) ≤ 800) = (n + 20 ≤ 800) := by
    show (nI n + nI 20 ≤ nI 800) = _
    rw [li_add, li_le (by omega) (by omega)]
  by_cases h20 : n + 20 ≤ 800
  · have s0 : cWd I n (fun q => if q = 0 then a else if q = 1 then b2 else if q = 2 then c2 else if q = 3 then d2 else e2) 0 I := ⟨fun _ _ _ => rfl, fun _ _ => rfl, r1, fun _ _ => rfl, fun j hj => by omega⟩
    obtain ⟨I1, p1, s1⟩ := cWd_step (J := J) (x := x) s0 (by omega)
    obtain ⟨I2, p2, s2⟩ := cWd_step (J := J) (x := x) s1 (by omega)
    obtain ⟨I3, p3, s3⟩ := cWd_step (J := J) (x := x) s2 (by omega)
    obtain ⟨I4, p4, s4⟩ := cWd_step (J := J) (x := x) s3 (by omega)
    obtain ⟨I5, p5, s5⟩ := cWd_step (J := J) (x := x) s4 (by omega)
    have t0 : mWd (th I5 0) n (fun q => if q = 0 then a else if q = 1 then b2 else if q = 2 then c2 else if q = 3 then d2 else e2) 0 (th I5 0) := ⟨fun _ _ _ => rfl, fun _ _ => rfl, by rw [th_offk _ (by omega), s5.1 200 (by omega) (by omega)]; exact r2, fun _ _ => rfl, fun j hj => by omega⟩
    obtain ⟨K1, q1, t1⟩ := mWd_step (J := J) (x := x) t0 (by omega)
    obtain ⟨K2, q2, t2⟩ := mWd_step (J := J) (x := x) t1 (by omega)
    obtain ⟨K3, q3, t3⟩ := mWd_step (J := J) (x := x) t2 (by omega)
    obtain ⟨K4, q4, t4⟩ := mWd_step (J := J) (x := x) t3 (by omega)
    obtain ⟨K5, q5, t5⟩ := mWd_step (J := J) (x := x) t4 (by omega)
    have p1' : dd_X7_putWord 1 a (S0, I, J, x) = _ := p1
    have p2' : dd_X7_putWord 1 b2 (S0, I1, J, x) = _ := p2
    have p3' : dd_X7_putWord 1 c2 (S0, I2, J, x) = _ := p3
    have p4' : dd_X7_putWord 1 d2 (S0, I3, J, x) = _ := p4
    have p5' : dd_X7_putWord 1 e2 (S0, I4, J, x) = _ := p5
    have q1' : dd_X12_bytesOf 200 a (S0, th I5 0, J, x) = _ := q1
    have q2' : dd_X12_bytesOf 200 b2 (S0, K1, J, x) = _ := q2
    have q3' : dd_X12_bytesOf 200 c2 (S0, K2, J, x) = _ := q3
    have q4' : dd_X12_bytesOf 200 d2 (S0, K3, J, x) = _ := q4
    have q5' : dd_X12_bytesOf 200 e2 (S0, K4, J, x) = _ := q5
    have off : ∀ r, r ≠ 1 → r ≠ 2 → r ≠ 200 → r ≠ 209 → K5 r = I r := fun r p1 p2 p3 p4 => (t5.1 r p3 p4).trans ((th_off _ p3).trans (s5.1 r p1 p2))
    have offk : ∀ k, k ≠ 0 → k ≠ 10 → K5 200 k = I 200 k := fun k p1 p2 => (t5.2.1 k p2).trans ((th_offk _ p1).trans (by rw [s5.1 200 (by omega) (by omega)]))
    refine ⟨nI (n + 20), I5, J, K5, J, ?_, ?_, ⟨NH, NY, NE, NR, f, u, tp, H, b, S, W0_sam w (fun r h1 h2 => off r (by omega) (by omega) (by omega) (by omega)) (fun r h1 h2 => off r (by omega) (by omega) (by omega) (by omega)), InvC_rd c (fun r h1 h2 => off r (by omega) (by omega) (by omega) (by omega)) (fun r h1 h2 => off r (by omega) (by omega) (by omega) (by omega)) (fun _ _ => rfl), InvM_cl m (offk 29 (by omega) (by omega)) (off 219 (by omega) (by omega) (by omega) (by omega)) rfl rfl rfl, ⟨?_, ?_⟩, n + 20, h20, ?_, t5.2.2.1, fun k hk => ?_, ?_⟩⟩
    · unfold dd_X11_append
      rw [c_R0, ob_s, r_f1, ob_s, r1, if_pos (by rw [e20]; exact h20), ob_s, r_rc, ob_s, p1', ob_s, c_R0, ob_s, r_rc, ob_s, p2', ob_s, c_R0, ob_s, r_rc, ob_s, p3', ob_s, c_R0, ob_s, r_rc, ob_s, p4', ob_s, c_R0, ob_s, r_rc, ob_s, p5', ob_s, c_R0, ob_s, r_f1, ob_s, s5.2.2.1]
    · unfold dd_X12_append
      have e10 : th I5 0 200 10 = nI n := t0.2.2.1
      rw [m_P0, ob_s, m_F10, ob_s, e10, if_pos (by rw [e20]; exact h20), m_rc, ob_s, q1', ob_s, m_rc, ob_s, q2', ob_s, m_rc, ob_s, q3', ob_s, m_rc, ob_s, q4', ob_s, m_rc, ob_s, q5', ob_s, m_F10, ob_s, t5.2.2.1]
    · rw [off 213 (by omega) (by omega) (by omega) (by omega)]; exact rd.1.1
    · rw [off 214 (by omega) (by omega) (by omega) (by omega)]; exact rd.1.2
    · rw [t5.1 1 (by omega) (by omega), th_off _ (by omega)]; exact s5.2.2.1
    · have e2 : K5 2 = I5 2 := (t5.1 2 (by omega) (by omega)).trans (th_off _ (by omega))
      rw [e2]
      by_cases e : k < n
      · rw [s5.2.2.2.1 k e, t5.2.2.2.1 k e, th_off _ (by omega), s5.1 209 (by omega) (by omega)]
        exact r3 k e
      · have z1 := s5.2.2.2.2 (k - n) (by omega)
        have z2 := t5.2.2.2.2 (k - n) (by omega)
        rw [show n + (k - n) = k by omega] at z1 z2
        rw [z1, z2]
        exact ⟨rfl, bt_rg _ _⟩
    · rw [t5.1 1 (by omega) (by omega), th_off _ (by omega), s5.2.1 4 (by omega), offk 17 (by omega) (by omega)]; exact r4
  · refine ⟨-1, I, J, th I 0, J, ?_, ?_, Inv_kp hi (kp_th (kp_refl c.2.1) 0) kpJ_refl⟩
    · unfold dd_X11_append
      rw [c_R0, ob_s, r_f1, ob_s, r1, if_neg (by rw [e20]; exact h20)]
    · unfold dd_X12_append
      have e10 : th I 0 200 10 = nI n := by rw [th_offk _ (by omega)]; exact r2
      rw [m_P0, ob_s, m_F10, ob_s, e10, if_neg (by rw [e20]; exact h20)]
end AP
