/-! ===== the sum of a move, in both readers ===== -/
section SU
variable {I I' I0 I1 I2 I3 I4 M M' M0 M1 M2 : Nat → Nat → Int32} {J J' J1 J2 J3 J4 : Nat → Nat → Int64} {x x' : Nat} {T : Nat → Int32} {N p : Nat}
theorem FLL_cd (h : FLL I0 M0 I M) (o : ∀ r, r ≠ 15 → r ≠ 16 → I' r = I r) : FLL I0 M0 I' M := by
  obtain ⟨⟨c, c0, c1, c2, c3⟩, ⟨b1, b2, b3, b4⟩, hm⟩ := h
  refine ⟨⟨c, c0, by rw [o 1 (by omega) (by omega)]; exact c1, c2, by rw [o 1 (by omega) (by omega)]; exact c3⟩, ⟨fun r hr => (o r (by omega) (by omega)).trans (b1 r hr), fun k hk => by rw [o 1 (by omega) (by omega)]; exact b2 k hk, by rw [o 1 (by omega) (by omega)]; exact b3, ?_⟩, hm⟩
  unfold clI tI at b4 ⊢
  rw [o (4 + 1) (by omega) (by omega), o (4 + 3) (by omega) (by omega), o (4 + 5) (by omega) (by omega), o (4 + 7) (by omega) (by omega), o (4 + 9) (by omega) (by omega)]
  exact b4
theorem LK_bind3 {rc rm : Option (Int32 × ab_Mm)} {fc fm g : Int32 × ab_Mm → Option (Int32 × ab_Mm)} {ok1 ok2 : (Nat → Nat → Int32) → (Nat → Nat → Int32) → Prop} (h : LK I0 M0 J x J' x' rc rm ok1) (hc0 : ∀ I, ∃ I', fc (0, (S0, I, J, x)) = some (0, (S0, I', J, x)) ∧ ∀ r, r ≠ 15 → r ≠ 16 → I' r = I r) (hm0 : ∀ M, (fm (0, (S0, M, J', x'))).bind g = some (0, (S0, M, J', x'))) (hok : ∀ I M, ok1 I M → LK I0 M0 J x J' x' (fc (1, (S0, I, J, x))) ((fm (1, (S0, M, J', x'))).bind g) ok2) : LK I0 M0 J x J' x' (rc.bind fc) ((rm.bind fm).bind g) ok2 := by
  rcases h with ⟨I, M, r1, r2, r3⟩ | ⟨I, M, r1, r2, r3⟩
  · rw [r1, r2, ob_s, ob_s]
    exact hok I M r3
  · rw [r1, r2, ob_s, ob_s]
    obtain ⟨I', e1, e2⟩ := hc0 I
    exact Or.inr ⟨I', M, e1, hm0 M, FLL_cd r3 e2⟩
/-- the lockstep of a factor while b brackets are open -/
def FA (T : Nat → Int32) (N : Nat) (I0 M0 : Nat → Nat → Int32) (J : Nat → Nat → Int64) (x : Nat) (J' : Nat → Nat → Int64) (x' b F G : Nat) : Prop := ∀ (p : Nat) (I M : Nat → Nat → Int32) (n q D : Nat), STT T N p I0 M0 I M → M 200 20 = nI b → XP I M n D → n + q ≤ p → D + 2 * (5 - b) < 13 → LK I0 M0 J x J' x' (dd_X7_factor F 1 (nI b) (S0, I, J, x)) (dd_X12_factor G 200 (S0, M, J', x')) (fun I' M' => ∃ p1, p < p1 ∧ okX T N p1 I0 M0 I M b q (D + 1) I' M')
def SA (T : Nat → Int32) (N : Nat) (I0 M0 : Nat → Nat → Int32) (J : Nat → Nat → Int64) (x : Nat) (J' : Nat → Nat → Int64) (x' b F G : Nat) : Prop := ∀ (p : Nat) (I M : Nat → Nat → Int32) (n q D : Nat), STT T N p I0 M0 I M → M 200 20 = nI b → XP I M n D → n + q ≤ p → D + 2 * (5 - b) + 2 < 13 → LK I0 M0 J x J' x' (dd_X7_sum F 1 (nI b) (S0, I, J, x)) (dd_X12_sum G 200 (S0, M, J', x')) (fun I' M' => ∃ p1, p < p1 ∧ okX T N p1 I0 M0 I M b q (D + 1) I' M')
theorem s40 : sor 40 = 4 := by decide
theorem s41 : sor 41 = 4 := by decide
theorem s42 : sor 42 = 4 := by decide
theorem s43 : sor 43 = 4 := by decide
theorem s45 : sor 45 = 4 := by decide
theorem s47 : sor 47 = 4 := by decide
/-- a factor that is no bracket, or one bracket too many -/
theorem L_factor {b F G : Nat} (hb : b ≤ 5) (hS : b < 5 → SA T N I0 M0 J x J' x' (b + 1) F G) : FA T N I0 M0 J x J' x' b (F + 1) (G + 1) := by
  intro p I M n q D h h20 hx hq hD
  have hp := h.1.2.1
  show LK I0 M0 J x J' x' (st_X7_factor (dd_X7_factor F) (dd_X7_sum F) 1 (nI b) (S0, I, J, x)) (st_X12_factor (dd_X12_factor G) (dd_X12_sum G) (dd_X12_term G) 200 (S0, M, J', x')) _
  unfold st_X7_factor st_X12_factor
  rw [r_f8, ob_s, h.1.2.2.2.2, m_rc, ob_s, m_signHere h.2.1, ob_s, ob_s]
  by_cases c : tk T N p = 4 ∧ T (stt T N p) = 40
  · have htk : tk T N p ≠ 0 := by omega
    have hpn := (nxt_le (T := T) hp).2.2 htk
    rw [if_pos (by rw [kdC_sg s40]; exact c), if_pos c, if_neg n10, m_F20, ob_s, h20]
    by_cases b5 : b < 5
    · obtain ⟨I1, M1, r1, r2, r3, r4, r5⟩ := L_adv (J := J) (x := x) (J' := J') (x' := x') h
      rw [if_pos (show nI b < 5 by rw [li_n 5, li_lt (by omega) (by omega)]; exact b5), if_neg (show ¬ (5 : Int32) ≤ nI b by rw [li_n 5, li_le (by omega) (by omega)]; omega), r_rc, ob_s, r1, ob_s, r_rc, ob_s, bb_X12_factor_24, m_rc, ob_s]
      unfold dd_X12_starts
      have e20 : M1 200 20 = nI b := by rw [r5.2 20 (by omega)]; exact h20
      rw [if_neg n10, m_rc, ob_s, r2, ob_s, ob_s, if_neg n10, m_F20, ob_s, e20, nI_1, pI_X12_20 okM, ob_s, m_rc, ob_s]
      have h1 : STT T N (nxt T N p) I0 M0 I1 (ab_u M1 200 20 (nI (b + 1))) := STT_uM r3 _ (by omega)
      have x1 : XP I1 (ab_u M1 200 20 (nI (b + 1))) n D := XP_sam hx (r4.1 15 (by omega)) (r4.1 16 (by omega)) (by rw [u_r (by omega), r5.1 207 (by omega)]) (by rw [u_r (by omega), r5.1 208 (by omega)])
      have sa := hS b5 (nxt T N p) I1 _ n q D h1 u_e x1 (by omega) (by omega)
      have fin : ∀ M, bb_X12_factor_62 (dd_X12_factor G) (dd_X12_sum G) (dd_X12_term G) 200 (S0, M, J', x') = some (0, (S0, ab_u M 200 20 (M 200 20 - 1), J', x')) := by
        intro M
        rw [bb_X12_factor_62, bb_X12_factor_63, m_F20, ob_s, pI_X12_20 okM, ob_s, h01, if_neg (by simp)]
      rcases sa with ⟨I2, M2, s1, s2, p1, hp1, p2, n2, hp2, t1, t2, t3, t4, t5, t6⟩ | ⟨I2, M2, s1, s2, s3⟩
      · rw [s1, ob_s, if_neg n10, r_rc, ob_s, s2, ob_s, if_neg n10, m_rc, ob_s]
        rcases L_sign (J := J) (x := x) (J' := J') (x' := x') t1 s41 with ⟨I3, M3, v1, v2, v3, v4, v5, v6⟩ | ⟨I3, M3, v1, v2, v3⟩
        · have a1 := nxt_le (T := T) t1.1.2.1
          have a2 := a1.2.2 (by omega)
          have e20 : M3 200 20 = nI (b + 1) := by rw [v6.2 20 (by omega)]; exact t2
          rw [v1, ob_s, if_neg n10, bb_X7_factor_48, h11, if_neg (by simp), v2, ob_s, if_neg n10, bb_X12_factor_63, m_F20, ob_s, e20, li_n 1, pk_sub (by omega), pI_X12_20 okM, ob_s]
          rw [show nI 1 &&& nI 1 = nI 1 from h11, if_neg (by simp)]
          refine Or.inl ⟨I3, ab_u M3 200 20 (nI (b + 1 - 1)), rfl, rfl, nxt T N p2, by omega, nxt T N p2, n2, Nat.le_refl _, STT_uM v3 _ (by omega), ?_, XP_sam t3 (v5.1 15 (by omega)) (v5.1 16 (by omega)) (by rw [u_r (by omega), v6.1 207 (by omega)]) (by rw [u_r (by omega), v6.1 208 (by omega)]), by omega, frX_trans (frX_trans (frX_ad r4) t5) (frX_ad v5), ⟨fun r p1 p2 p3 => ?_, ?_⟩⟩
          · rw [u_e]; exact congrArg nI (by omega)
          · rw [u_r p1, v6.1 r p1, t6.1 r p1 p2 p3, u_r p1, r5.1 r p1]
          · rw [u_k (by omega), v6.2 19 (by omega), t6.2, u_k (by omega), r5.2 19 (by omega)]
        · rw [v1, ob_s, if_pos rfl, bb_X7_factor_47, bb_X7_factor_48, h01, if_neg (by simp), v2, ob_s, if_pos rfl, fin]
          refine Or.inr ⟨I3, _, rfl, rfl, ?_, v3.2.1, BM_u v3.2.2 _ (by omega)⟩
          obtain ⟨⟨c, c0, c1, c2, c3⟩, _, _⟩ := v3
          exact ⟨c, c0, c1, by rw [u_k (by omega)]; exact c2, by rw [u_k (by omega)]; exact c3⟩
      · rw [s1, ob_s, if_pos rfl, bb_X7_factor_47, bb_X7_factor_48, h01, if_neg (by simp), s2, ob_s, if_pos rfl, fin]
        refine Or.inr ⟨I2, _, rfl, rfl, ?_, s3.2.1, BM_u s3.2.2 _ (by omega)⟩
        obtain ⟨⟨c, c0, c1, c2, c3⟩, _, _⟩ := s3
        exact ⟨c, c0, c1, by rw [u_k (by omega)]; exact c2, by rw [u_k (by omega)]; exact c3⟩
    · rw [if_neg (show ¬ nI b < 5 by rw [li_n 5, li_lt (by omega) (by omega)]; exact b5), if_pos (show (5 : Int32) ≤ nI b by rw [li_n 5, li_le (by omega) (by omega)]; omega), r_rc, ob_s, bb_X12_factor_24, m_rc, ob_s]
      unfold dd_X12_starts
      obtain ⟨I', M', q1, q2, q3⟩ := L_fail (J := J) (x := x) (J' := J') (x' := x') h (c := 4) (by decide)
      rw [if_pos rfl, m_rc, ob_s, q1, q2, ob_s, ob_s]
      dsimp only
      rw [h01, if_neg (by simp), if_neg (by simp), ob_s]
      exact Or.inr ⟨I', M', rfl, if_pos rfl, q3⟩
  · rw [if_neg (by rw [kdC_sg s40]; exact c), if_neg c, if_pos rfl, m_F14, ob_s, h.2.1.2.2.2.2.1]
    have k2 : (kdC T N p = 2) = (tk T N p = 2) := kdC_lo (c := 2) (by omega)
    have k2m : (kdM T N p = 2) = (tk T N p = 2) := kdM_lo (c := 2) (by omega)
    by_cases c2 : tk T N p = 2
    · have htk : tk T N p ≠ 0 := by omega
      obtain ⟨v, v1, v2⟩ := vl_is h.2.1.1.2.1 hp c2
      have e15 := h.2.1.2.2.2.2.2.1 c2
      rw [if_pos (by rw [k2]; exact c2), if_pos (by rw [k2m]; exact c2), r_rc, ob_s, c_number h.1, ob_s, m_F15, ob_s, e15]
      dsimp only
      have e100 : (100 : Int32) + vlN T N p = nI (100 + v) := by
        rw [v2]; exact li_add 100 v
      have hpos : 0 < nI (100 + v) := by
        show nI 0 < nI (100 + v)
        rw [li_lt (by omega) (by omega)]; omega
      have lo := L_operand (J := J) (x := x) (J' := J') (x' := x') h h20 hx hq (by omega) (dd_X7_factor F) (dd_X7_sum F) (dd_X12_factor G) (dd_X12_sum G) (dd_X12_term G) (c := nI v) (e := nI (100 + v)) (Or.inl ⟨v, v1, rfl, rfl⟩) hpos (by rw [li_0, ne_eq, li_eq (by omega) (by omega)]; omega) htk
      rw [e100, v2, bb_X7_factor_68]
      have lo2 := LK_weak lo (fun I' M' z => show ∃ p1, p < p1 ∧ okX T N p1 I0 M0 I M b q (D + 1) I' M' from ⟨nxt T N p, z.1, z.2⟩)
      by_cases v0 : nI v = 0
      · rw [if_pos v0, r_f8, ob_s, h.1.2.2.2.2, if_pos (by rw [k2]; exact c2)]
        exact lo2
      · rw [if_neg v0]
        exact lo2
    · rw [if_neg (by rw [k2]; exact c2), if_neg (by rw [k2m]; exact c2), r_rc, ob_s, c_name h.1, ob_s, m_rc, ob_s, m_name h.2.1, ob_s]
      dsimp only
      rcases nm_rel T N p with ⟨z1, z2⟩ | ⟨z1, z2, z3, z4⟩
      · rw [z1, z2, bb_X7_factor_68, if_pos rfl, r_f8, ob_s, h.1.2.2.2.2, if_neg (by rw [k2]; exact c2), r_rc, ob_s, bb_X12_factor_98, if_pos rfl, m_rc, ob_s]
        exact LK_weak (L_failb h (by decide)) (fun _ _ z => absurd z id)
      · have htk : tk T N p ≠ 0 := by
          intro z0
          have : ∀ i, isW T N p i = false := fun i => by
            unfold isW
            rw [if_neg (by omega)]
          refine z1 ?_
          unfold nmC
          rw [this, this, this, this]
          rfl
        rw [bb_X7_factor_68, if_neg z1]
        exact LK_weak (L_operand h h20 hx hq (by omega) (dd_X7_factor F) (dd_X7_sum F) (dd_X12_factor G) (dd_X12_sum G) (dd_X12_term G) z3 z4 z2 htk) (fun I' M' z => ⟨nxt T N p, z.1, z.2⟩)
/-- the reference's operator that waits -/
def cO (a : Nat) : Int32 := if a = 43 then -1 else -2
def tlK (f s t : Nat → ab_Mm → Option (Int32 × ab_Mm)) (a fs : Nat) (m : ab_Mm) : Option (Int32 × ab_Mm) := if a = 0 then bb_X12_sum_9 f s t fs 200 m else (ab_rc m 12 200).bind fun _ => (dd_X12_emit 200 (cO a) m).bind fun q3 => bb_X12_sum_9 f s t fs 200 q3.2
def gK (f s t : Nat → ab_Mm → Option (Int32 × ab_Mm)) (a fs : Nat) (q : Int32 × ab_Mm) : Option (Int32 × ab_Mm) := if q.1 = 0 then some (0, q.2) else tlK f s t a fs q.2
theorem cdp_p : cdp (-nI 43) (cO 43) ∧ cdp (-nI 45) (cO 45) ∧ ¬ 0 < cO 43 ∧ ¬ 0 < cO 45 := ⟨by unfold cdp cO; exact Or.inr (Or.inr (Or.inr (Or.inr (Or.inr (Or.inl ⟨by decide, by decide⟩))))), by unfold cdp cO; exact Or.inr (Or.inr (Or.inr (Or.inr (Or.inr (Or.inr (Or.inl ⟨by decide, by decide⟩)))))), by decide, by decide⟩
theorem cdp_42 : cdp (-(42 : Int32)) (-3) := Or.inr (Or.inr (Or.inr (Or.inr (Or.inr (Or.inr (Or.inr (Or.inl ⟨by decide, by decide⟩)))))))
theorem cdp_47 : cdp (-(47 : Int32)) (-4) := Or.inr (Or.inr (Or.inr (Or.inr (Or.inr (Or.inr (Or.inr (Or.inr ⟨by decide, by decide⟩)))))))
end SU
