/-! ===== snapshots ===== -/
section SL
variable {I I' : Nat → Nat → Int32} {J J' : Nat → Nat → Int64} {x : Nat} {NH NY NE NR s d u tp : Nat} {f g : Nat → Int64} {H S : Nat → Nat → Int64} {b : Nat → Bool}
theorem m_copy0 {r0 r1 n0 n1 c : Nat} (h0 : S0[r0]? = some (4, n0, [])) (h1 : S0[r1]? = some (4, n1, [])) (ha : 116 ≤ n0) (hb : c + 116 ≤ n1) (z0 : n0 < 100000) (z1 : n1 < 100000) (hne : r0 ≠ r1) : dd_X12_copies r0 0 r1 (nI c) 116 (S0, I, J, x) = some ((), (S0, I, ab_cp J r0 0 r1 c 116, x)) := m_copies (a := 0) (n := 116) h0 h1 (by omega) hb z0 z1 (Or.inl hne)
theorem m_copy1 {r0 r1 n0 n1 a : Nat} (h0 : S0[r0]? = some (4, n0, [])) (h1 : S0[r1]? = some (4, n1, [])) (ha : a + 116 ≤ n0) (hb : 116 ≤ n1) (z0 : n0 < 100000) (z1 : n1 < 100000) (hne : r0 ≠ r1) : dd_X12_copies r0 (nI a) r1 0 116 (S0, I, J, x) = some ((), (S0, I, ab_cp J r0 a r1 0 116, x)) := m_copies (c := 0) (n := 116) h0 h1 ha (by omega) z0 z1 (Or.inl hne)
theorem m_copy2 {r0 r1 n0 n1 : Nat} (h0 : S0[r0]? = some (4, n0, [])) (h1 : S0[r1]? = some (4, n1, [])) (ha : 116 ≤ n0) (hb : 116 ≤ n1) (z0 : n0 < 100000) (z1 : n1 < 100000) (hne : r0 ≠ r1) : dd_X12_copies r0 0 r1 0 116 (S0, I, J, x) = some ((), (S0, I, ab_cp J r0 0 r1 0 116, x)) := m_copies (a := 0) (c := 0) (n := 116) h0 h1 (by omega) (by omega) z0 z1 (Or.inl hne)
theorem x116 (a : Nat) : (116 : Int32) * nI a = nI (116 * a) := li_mul 116 a
theorem c_needSlot (a : Int32) : dd_X11_needSlot 0 a (S0, I, J, x) = some (if inN a 2 then .inl () else .inr 0, (S0, I, J, if inN a 2 then x else x + 1)) := by
  have q := has_in a (show 2 < 1000 by omega)
  have h22 : nI 2 = 2 := rfl
  rw [h22] at q
  unfold dd_X11_needSlot
  by_cases h1 : a < 0
  · rw [if_pos h1] at q ⊢
    cases h : inN a 2 with
    | true => rw [h] at q; exact absurd q (by decide)
    | false => rfl
  · rw [if_neg h1] at q ⊢
    by_cases h2 : a < 2
    · rw [if_pos h2]
      rw [if_neg (Int32.not_le.mpr h2)] at q
      cases h : inN a 2 with
      | true => rfl
      | false => rw [h] at q; exact absurd q (by decide)
    · rw [if_neg h2]
      rw [if_pos (Int32.not_lt.mp h2)] at q
      cases h : inN a 2 with
      | true => rw [h] at q; exact absurd q (by decide)
      | false => rfl
theorem c_isSaved (h : SvC I J NH NY NE b S) {t : Nat} (ht : t < 2) : dd_X4_isSaved 52 (nI t) (S0, I, J, x) = some (if b t then 1 else 0, (S0, I, J, x)) := by
  have hl := bs_lt b 2
  unfold dd_X4_isSaved
  rw [if_neg (li_pos (by omega)), fR_X4_1 okH, ob_s]
  show ((ab_len (S0, I, J, x) 5 54).bind _) = _
  rw [h_len53, ob_s, if_neg (by rw [li_le (by omega) (by omega)]; omega), fI_X4_4 okH, ob_s, h.1, li_bit (by omega) (by omega), bs_bit]
  simp only [ht, decide_true, Bool.true_and]
  cases b t with
  | true => simp [bb_X4_isSaved_29]
  | false => simp [bb_X4_isSaved_28, bb_X4_isSaved_29]
def onB2 (b : Nat → Bool) (t : Nat) : Nat → Bool := fun k => decide (k = t) || b k
def onS2 (S : Nat → Nat → Int64) (t : Nat) (f : Nat → Int64) : Nat → Nat → Int64 := fun k => if k = t then f else S k
theorem bs_or {t : Nat} (ht : t < 2) : nI (bs b 2) ||| ((1 : Int32) <<< (nI t &&& 31)) = nI (bs (onB2 b t) 2) := by
  rw [li_sh1 t (by omega), li_or]
  have h := bs_lt b 2
  have h2 : 2 ^ t < 2 ^ 2 := Nat.pow_lt_pow_right (by decide) ht
  refine congrArg nI (bs_ext (k := 2) (Nat.or_lt_two_pow h h2) (bs_lt _ _) (fun j hj => ?_))
  rw [Nat.testBit_or, bs_bit, bs_bit, Nat.testBit_two_pow]
  unfold onB2
  simp [hj]
  by_cases e : t = j
  · simp [e]
  · simp [e, show ¬ j = t from fun q => e q.symm]
theorem c_save (h6 : NY ≤ 6) (h : InvC I J NH NY NE f u tp H b S) {t : Nat} (ht : t < 2) : ∃ I' J', dd_X4_save 52 (nI t) 32 (S0, I, J, x) = some ((), (S0, I', J', x)) ∧ InvC I' J' NH NY NE f u tp H (onB2 b t) (onS2 S t f) ∧ (∀ r, r < 155 ∨ 175 ≤ r → r ≠ 52 → I' r = I r) ∧ (∀ r, r < 155 ∨ 175 ≤ r → J' r = J r) := by
  obtain ⟨hr, hC, ⟨u10, tp10, hu, htp, hh⟩, hS⟩ := h
  have hCt : siI I (155 + 10 * t) := by
    have q := hC.2.1 (10 + t) (by omega)
    rw [show 55 + 10 * (10 + t) = 155 + 10 * t by omega] at q
    exact q
  have hT : siT (155 + 10 * t) := by
    have q := siP (10 + t) (by omega)
    rw [show 55 + 10 * (10 + t) = 155 + 10 * t by omega] at q
    exact q
  obtain ⟨I1, J1, e1, o1, q1, k1, r1⟩ := @RS_copy I J x NH NY NE 32 (155 + 10 * t) f hT si31 (by omega) hCt (by omega) (by omega) h6 hr
  unfold dd_X4_save
  rw [if_neg (li_pos (by omega)), fR_X4_1 okH, ob_s]
  show ∃ I' J', ((ab_len (S0, I, J, x) 5 54).bind _) = _ ∧ _
  rw [h_len53, ob_s, if_neg (by rw [li_le (by omega) (by omega)]; omega), ob_s]
  show ∃ I' J', ((ab_ldR (S0, I, J, x) 54 (nI t)).bind _) = _ ∧ _
  rw [h_ld53 t ht, ob_s, ob_s]
  show ∃ I' J', ((ab_ldR (S0, I, J, x) 54 (nI t)).bind _) = _ ∧ _
  rw [h_ld53 t ht, ob_s, rc_X8 hT.1, ob_s, e1, ob_s, fI_X4_4 okH, ob_s, pI_X4_4 okH, ob_s]
  have e4 : I1 52 4 = nI (bs b 2) := by rw [o1 52 (by omega)]; exact hS.1
  rw [e4, bs_or ht]
  have z : ∀ r, r ≠ 52 → ab_u I1 52 4 (nI (bs (onB2 b t) 2)) r = I1 r := fun r hr => u_r hr
  have z2 : ab_u I1 52 4 (nI (bs (onB2 b t) 2)) 52 4 = nI (bs (onB2 b t) 2) := u_e
  have z3 : ∀ k, k ≠ 4 → ab_u I1 52 4 (nI (bs (onB2 b t) 2)) 52 k = I 52 k := fun k hk => by rw [u_k hk, o1 52 (by omega)]
  generalize ab_u I1 52 4 (nI (bs (onB2 b t) 2)) = I2 at z z2 z3 ⊢
  have off : ∀ r, r ≠ 52 → (r < 155 + 10 * t ∨ 155 + 10 * t + 10 ≤ r) → I2 r = I r := fun r h1 h2 => (z r h1).trans (o1 r h2)
  have s2 : sam 201 207 I I2 := fun r h1 h2 => off r (by omega) (by omega)
  refine ⟨I2, J1, rfl, ⟨RS_sam hr (fun r h1 h2 => off r (by omega) (by omega)) s2 (k1 _ (by omega)), ?_, ⟨u10, tp10, (z3 2 (by omega)).trans hu, (z3 3 (by omega)).trans htp, fun k hk => RS_sam (hh k hk) (fun r h1 h2 => off r (by omega) (by omega)) s2 (k1 _ (by omega))⟩, z2, fun t2 ht2 hb => ?_⟩, fun r h1 h2 => off r h2 (by omega), fun r h1 => k1 r (by omega)⟩
  · obtain ⟨a, a2, a3, a4, a5, a6⟩ := hC
    refine ⟨?_, fun k hk => ?_, ?_, ?_, ?_, ?_⟩
    · unfold siI tI at a ⊢
      rw [off (42 + 1) (by omega) (by omega), off (42 + 3) (by omega) (by omega), off (42 + 5) (by omega) (by omega), off (42 + 7) (by omega) (by omega)]
      exact a
    · by_cases e : k = 10 + t
      · rw [e, show 55 + 10 * (10 + t) = 155 + 10 * t by omega]
        unfold siI tI at q1 ⊢
        rw [z (155 + 10 * t + 1) (by omega), z (155 + 10 * t + 3) (by omega), z (155 + 10 * t + 5) (by omega), z (155 + 10 * t + 7) (by omega)]
        exact q1
      · have q := a2 k hk
        unfold siI tI at q ⊢
        rw [off (55 + 10 * k + 1) (by omega) (by omega), off (55 + 10 * k + 3) (by omega) (by omega), off (55 + 10 * k + 5) (by omega) (by omega), off (55 + 10 * k + 7) (by omega) (by omega)]
        exact q
    · unfold bI tI at a3 ⊢
      rw [off 176 (by omega) (by omega), off 178 (by omega) (by omega)]
      exact a3
    · unfold tI at a4 ⊢
      rw [off 183 (by omega) (by omega)]
      exact a4
    · unfold tP tI at a5 ⊢
      rw [off 198 (by omega) (by omega), off 193 (by omega) (by omega)]
      exact a5
    · unfold clI tI at a6 ⊢
      rw [off (4 + 1) (by omega) (by omega), off (4 + 3) (by omega) (by omega), off (4 + 5) (by omega) (by omega), off (4 + 7) (by omega) (by omega), off (4 + 9) (by omega) (by omega)]
      exact a6
  · unfold onS2
    by_cases e : t2 = t
    · rw [if_pos e, e]
      exact RS_sam r1 (fun r h1 h2 => z r (by omega)) (fun r h1 h2 => z r (by omega)) rfl
    · rw [if_neg e]
      have hb' : b t2 = true := by simpa [onB2, e] using hb
      exact RS_sam (hS.2 t2 ht2 hb') (fun r h1 h2 => off r (by omega) (by omega)) s2 (k1 _ (by omega))
theorem q_save (hi : Inv I J) (cd : Nat → Option Int32) (hcd : cd 0 = some 1) (a : Int32) : Cal (dd_X11_saveSnapshot 0 a) (dd_X12_saveSnapshot 200 a) cd I J x := by
  obtain ⟨NH, NY, NE, NR, f, u, tp, H, b, S, w, c, m, r⟩ := id hi
  have h6 : NY ≤ 6 := w.1.2.2.1
  unfold Cal dd_X11_saveSnapshot dd_X12_saveSnapshot
  rw [c_rc, ob_s, c_needSlot, ob_s]
  cases h : inN a 2 with
  | false =>
    refine ⟨.inr 0, I, J, x + 1, rfl, by omega, fun J' hJ => ⟨0, th I 1, J', ?_, Inv_kp hi (kp_th (kp_refl (Inv_Cst hi)) _) (fun r _ _ q => hJ r q), rfl, 1, hcd, by decide, th_at _⟩⟩
    rw [m_rc, ob_s, m_noSlot, ob_s, h]
    rfl
  | true =>
    obtain ⟨t, ht, rfl⟩ := inN_ex h (by omega)
    simp only [if_true]
    rw [c_R4, ob_s, rc_X4 okH, ob_s, c_isSaved c.2.2.2 ht, ob_s, c_R4, ob_s, c_R2, ob_s, rc_X4 okH, ob_s]
    obtain ⟨I1, J1, e1, c1, o1, k1⟩ := @c_save I J x NH NY NE u tp f H S b h6 c t ht
    rw [e1, ob_s, b1_ok]
    refine ⟨_, I1, J1, x, rfl, by omega, fun J' hJ => ?_⟩
    have sv := (m.2.2 t ht).1
    have hth : th I1 0 219 t = if b t then 1 else 0 := by
      rw [th_off _ (by omega), o1 219 (by omega) (by omega)]; exact sv
    refine ⟨_, ab_u (th I1 0) 219 t 1, ab_cp J' 201 0 218 (116 * t) 116, ?_, ?_, cpJ_off (by omega), by rw [u_r (by omega)]; exact th_at _, rfl⟩
    · rw [m_rc, ob_s, m_noSlot, ob_s, h]
      simp only [Bool.not_true, Bool.false_eq_true, if_false, if_true]
      rw [m_R32, ob_s, op_ld sh_217 rfl ht (by omega), ob_s, m_R1, ob_s, m_R31, ob_s, x116, m_copy0 sh_199 sh_216 (by omega) (by omega) (by omega) (by omega) (by omega), ob_s, m_R32, ob_s, op_st _ sh_217 rfl ht (by omega), ob_s, hth, b1_ok]
      rfl
    · have off : ∀ r, r ≠ 200 → r ≠ 219 → ab_u (th I1 0) 219 t 1 r = I1 r := fun r q1 q2 => by rw [u_r q2, th_off _ q1]
      have offk : ∀ k, k ≠ 0 → ab_u (th I1 0) 219 t 1 200 k = I 200 k := fun k q1 => by rw [u_r (by omega), th_offk _ q1, o1 200 (by omega) (by omega)]
      have jo : ∀ r, r ≠ 218 → r ≠ 220 → ab_cp J' 201 0 218 (116 * t) 116 r = J1 r := fun r q1 q2 => (cpJ_off q1).trans (hJ r q2)
      have hw2 : W0 (ab_u (th I1 0) 219 t 1) NH NY NE NR := W0_sam w (fun r q1 q2 => by rw [off r (by omega) (by omega), o1 r (by omega) (by omega)]) (fun r q1 q2 => by rw [off r (by omega) (by omega), o1 r (by omega) (by omega)])
      refine Inv_of hw2 (InvC_md c1 (fun r q1 q2 => off r (by omega) (by omega)) (fun r q1 q2 => off r (by omega) (by omega)) (fun r q => jo r (by omega) (by omega))) ⟨rfl, ⟨(offk 29 (by omega)).trans m.2.1.1, fun k hk i hi2 => ?_⟩, fun t2 ht2 => ⟨?_, fun hb i hi2 => ?_⟩⟩ (fun k hk => ?_) (Rdr_sam r (fun r q1 q2 => by rw [off r (by omega) (by omega), o1 r (by omega) (by omega)]) (by rw [off 209 (by omega) (by omega), o1 209 (by omega) (by omega)]) (offk 10 (by omega)) (offk 17 (by omega)) ⟨by rw [off 213 (by omega) (by omega), o1 213 (by omega) (by omega)], by rw [off 214 (by omega) (by omega), o1 214 (by omega) (by omega)]⟩)
      · rw [jo 217 (by omega) (by omega), k1 217 (by omega)]; exact m.2.1.2 k hk i hi2
      · unfold onB2
        by_cases e : t2 = t
        · rw [e, u_e]; simp
        · rw [u_k e, th_off _ (by omega), o1 219 (by omega) (by omega), (m.2.2 t2 ht2).1]
          simp [e]
      · unfold onS2
        by_cases e : t2 = t
        · rw [if_pos e, e, cpJ_in hi2, Nat.zero_add, hJ 201 (by omega), k1 201 (by omega), m.1]
        · have hb' : b t2 = true := by simpa [onB2, e] using hb
          rw [if_neg e, cpJ_out (by omega), hJ 218 (by omega), k1 218 (by omega)]
          exact (m.2.2 t2 ht2).2 hb' i hi2
      · rw [jo 201 (by omega) (by omega), k1 201 (by omega), m.1]
theorem c_restore (h6 : NY ≤ 6) (h : InvC I J NH NY NE f u tp H b S) {t : Nat} (ht : t < 2) (hb : b t = true) : ∃ I' J', dd_X4_restore 52 (nI t) 32 (S0, I, J, x) = some ((), (S0, I', J', x)) ∧ InvC I' J' NH NY NE (S t) 0 tp H b S ∧ (∀ r, r < 32 ∨ (42 ≤ r ∧ r ≠ 52) → I' r = I r) ∧ (∀ r, r ≠ 41 → J' r = J r) := by
  obtain ⟨hr, hC, ⟨u10, tp10, hu, htp, hh⟩, hS⟩ := h
  have hT : siT (155 + 10 * t) := by
    have q := siP (10 + t) (by omega)
    rw [show 55 + 10 * (10 + t) = 155 + 10 * t by omega] at q
    exact q
  obtain ⟨I1, J1, e1, o1, q1, k1, r1⟩ := @RS_copy I J x NH NY NE (155 + 10 * t) 32 (S t) si31 hT (by omega) hr.1.1 (by omega) (by omega) h6 (hS.2 t ht hb)
  unfold dd_X4_restore
  rw [rc_X4 okH, ob_s, c_isSaved hS ht, ob_s, hb]
  simp only [if_true]
  rw [if_neg n10, if_neg (li_pos (by omega)), fR_X4_1 okH, ob_s]
  show ∃ I' J', ((ab_len (S0, I, J, x) 5 54).bind _) = _ ∧ _
  rw [h_len53, ob_s, if_neg (by rw [li_le (by omega) (by omega)]; omega), ob_s]
  show ∃ I' J', ((ab_ldR (S0, I, J, x) 54 (nI t)).bind _) = _ ∧ _
  rw [h_ld53 t ht, ob_s, ob_s]
  show ∃ I' J', ((ab_ldR (S0, I, J, x) 54 (nI t)).bind _) = _ ∧ _
  rw [h_ld53 t ht, ob_s, rc_X8 si31.1, ob_s, e1, ob_s, pI_X4_2 okH, ob_s]
  have z : ∀ r, r ≠ 52 → ab_u I1 52 2 0 r = I1 r := fun r hr => u_r hr
  have z2 : ab_u I1 52 2 0 52 2 = nI 0 := u_e
  have z3 : ∀ k, k ≠ 2 → ab_u I1 52 2 0 52 k = I 52 k := fun k hk => by rw [u_k hk, o1 52 (by omega)]
  generalize ab_u I1 52 2 0 = I2 at z z2 z3 ⊢
  have off : ∀ r, r < 32 ∨ (42 ≤ r ∧ r ≠ 52) → I2 r = I r := fun r h1 => (z r (by omega)).trans (o1 r (by omega))
  have s2 : sam 201 207 I I2 := fun r h1 h2 => off r (by omega)
  refine ⟨I2, J1, rfl, ⟨RS_sam r1 (fun r h1 h2 => z r (by omega)) (fun r h1 h2 => z r (by omega)) rfl, ?_, ⟨by omega, tp10, z2, (z3 3 (by omega)).trans htp, fun k hk => by omega⟩, SvC_sam hS (z3 4 (by omega)) (fun r h1 h2 => off r (by omega)) s2 (fun r h1 h2 => k1 r (by omega))⟩, off, fun r h => k1 r (by omega)⟩
  · obtain ⟨a, a2, a3, a4, a5, a6⟩ := hC
    refine ⟨?_, fun k hk => ?_, ?_, ?_, ?_, ?_⟩
    · unfold siI tI at a ⊢
      rw [off (42 + 1) (by omega), off (42 + 3) (by omega), off (42 + 5) (by omega), off (42 + 7) (by omega)]
      exact a
    · have q := a2 k hk
      unfold siI tI at q ⊢
      rw [off (55 + 10 * k + 1) (by omega), off (55 + 10 * k + 3) (by omega), off (55 + 10 * k + 5) (by omega), off (55 + 10 * k + 7) (by omega)]
      exact q
    · unfold bI tI at a3 ⊢
      rw [off 176 (by omega), off 178 (by omega)]
      exact a3
    · unfold tI at a4 ⊢
      rw [off 183 (by omega)]
      exact a4
    · unfold tP tI at a5 ⊢
      rw [off 198 (by omega), off 193 (by omega)]
      exact a5
    · unfold clI tI at a6 ⊢
      rw [off (4 + 1) (by omega), off (4 + 3) (by omega), off (4 + 5) (by omega), off (4 + 7) (by omega), off (4 + 9) (by omega)]
      exact a6
theorem q_restore (hi : Inv I J) (cd : Nat → Option Int32) (hcd : cd 0 = some 1) (hcd1 : cd 1 = some 2) (a : Int32) : Cal (dd_X11_restoreSnapshot 0 a) (dd_X12_restoreSnapshot 200 a) cd I J x := by
  obtain ⟨NH, NY, NE, NR, f, u, tp, H, b, S, w, c, m, r⟩ := id hi
  have h6 : NY ≤ 6 := w.1.2.2.1
  unfold Cal dd_X11_restoreSnapshot dd_X12_restoreSnapshot
  rw [c_rc, ob_s, c_needSlot, ob_s]
  cases h : inN a 2 with
  | false =>
    refine ⟨.inr 0, I, J, x + 1, rfl, by omega, fun J' hJ => ⟨0, th I 1, J', ?_, Inv_kp hi (kp_th (kp_refl (Inv_Cst hi)) _) (fun r _ _ q => hJ r q), rfl, 1, hcd, by decide, th_at _⟩⟩
    rw [m_rc, ob_s, m_noSlot, ob_s, h]
    rfl
  | true =>
    obtain ⟨t, ht, rfl⟩ := inN_ex h (by omega)
    have sv := (m.2.2 t ht).1
    simp only [if_true]
    rw [c_R4, ob_s, rc_X4 okH, ob_s, c_isSaved c.2.2.2 ht, ob_s]
    cases hb : b t with
    | false =>
      refine ⟨.inr 1, I, J, x + 1, rfl, by omega, fun J' hJ => ⟨0, th I 2, J', ?_, Inv_kp hi (kp_th (kp_refl (Inv_Cst hi)) _) (fun r _ _ q => hJ r q), rfl, 2, hcd1, by decide, th_at _⟩⟩
      have hth : th I 0 219 t = 0 := by
        rw [th_off _ (by omega), sv, hb]; rfl
      have q := @m_thr (th I 0) J' (x + 1) true 2 (by decide) (th_at 0)
      rw [m_rc, ob_s, m_noSlot, ob_s, h]
      simp only [Bool.not_true, Bool.false_eq_true, if_false, if_true] at q ⊢
      rw [m_R32, ob_s, op_ld sh_217 rfl ht (by omega), ob_s, hth, if_pos rfl, bb_X12_restoreSnapshot_23, m_rc, ob_s, q, ob_s, th_th]
      rfl
    | true =>
      simp only [if_true]
      rw [if_neg n10, c_R4, ob_s, c_R2, ob_s, rc_X4 okH, ob_s]
      obtain ⟨I1, J1, e1, c1, o1, k1⟩ := @c_restore I J x NH NY NE u tp f H S b h6 c t ht hb
      rw [e1, ob_s, c_R2, ob_s, e_F0, ob_s]
      refine ⟨_, I1, J1, x, rfl, by omega, fun J' hJ => ?_⟩
      have hth : th I1 0 219 t = 1 := by
        rw [th_off _ (by omega), o1 219 (by omega), sv, hb]; rfl
      have hag : ag (S t) (ab_cp J' 218 (116 * t) 201 0 116 201) := fun k hk => by
        have q := @cpJ_in J' 218 201 (116 * t) 0 116 k hk
        rw [Nat.zero_add] at q
        rw [q, hJ 218 (by omega), k1 218 (by omega)]
        exact (m.2.2 t ht).2 hb k hk
      refine ⟨(ab_cp J' 218 (116 * t) 201 0 116 201 0).toInt32, ab_u (th I1 0) 200 29 0, ab_cp J' 218 (116 * t) 201 0 116, ?_, ?_, cpJ_off (by omega), by rw [u_k (by omega)]; exact th_at _, ?_⟩
      · have q := @m_thr (th I1 0) J' x false 2 (by decide) (th_at 0)
        rw [m_rc, ob_s, m_noSlot, ob_s, h]
        simp only [Bool.not_true, Bool.false_eq_true, if_false, if_true] at q ⊢
        rw [m_R32, ob_s, op_ld sh_217 rfl ht (by omega), ob_s, hth, if_neg n10, bb_X12_restoreSnapshot_23, m_rc, ob_s, q, ob_s, th_th, if_pos rfl, m_R31, ob_s, m_R1, ob_s, x116, m_copy1 sh_216 sh_199 (by omega) (by omega) (by omega) (by omega) (by omega), ob_s, m_P29, ob_s, m_R1, ob_s, m_n0, ob_s]
      · have off : ∀ r, r ≠ 200 → ab_u (th I1 0) 200 29 0 r = I1 r := fun r hr => by rw [u_r hr, th_off _ hr]
        have offk : ∀ k, k ≠ 0 → k ≠ 29 → ab_u (th I1 0) 200 29 0 200 k = I 200 k := fun k q1 q2 => by rw [u_k q2, th_offk _ q1, o1 200 (by omega)]
        have jo : ∀ r, r ≠ 201 → r ≠ 220 → ab_cp J' 218 (116 * t) 201 0 116 r = J1 r := fun r q1 q2 => (cpJ_off q1).trans (hJ r q2)
        have hw2 : W0 (ab_u (th I1 0) 200 29 0) NH NY NE NR := W0_sam w (fun r q1 q2 => by rw [off r (by omega), o1 r (by omega)]) (fun r q1 q2 => by rw [off r (by omega), o1 r (by omega)])
        refine Inv_of hw2 (InvC_md c1 (fun r q1 q2 => off r (by omega)) (fun r q1 q2 => off r (by omega)) (fun r q => jo r (by omega) (by omega))) ⟨rfl, ⟨u_e, fun k hk i hi2 => by omega⟩, fun t2 ht2 => ⟨?_, fun hb i hi2 => ?_⟩⟩ hag (Rdr_sam r (fun r q1 q2 => by rw [off r (by omega), o1 r (by omega)]) (by rw [off 209 (by omega), o1 209 (by omega)]) (offk 10 (by omega) (by omega)) (offk 17 (by omega) (by omega)) ⟨by rw [off 213 (by omega), o1 213 (by omega)], by rw [off 214 (by omega), o1 214 (by omega)]⟩)
        · rw [off 219 (by omega), o1 219 (by omega)]; exact (m.2.2 t2 ht2).1
        · rw [jo 218 (by omega) (by omega), k1 218 (by omega)]; exact (m.2.2 t2 ht2).2 hb i hi2
      · rw [c1.1.1.2.1]
        unfold clk
        rw [hag 0 (by omega)]
end SL
