/-! ===== the sum of a move: the loop ===== -/
section SL
variable {I I' I0 I1 I2 I3 I4 M M' M0 M1 M2 M3 : Nat → Nat → Int32} {J J' J1 J2 J3 J4 : Nat → Nat → Int64} {x x' : Nat} {T : Nat → Int32} {N p : Nat}
theorem okX_tr {p2 b q D : Nat} (hp : p ≤ p2) (h1 : frX I I3) (h2 : frY M M3) (h : okX T N p2 I0 M0 I3 M3 b q D I' M') : okX T N p I0 M0 I M b q D I' M' := by
  obtain ⟨p', n', a1, a2, a3, a4, a5, a6, a7⟩ := h
  exact ⟨p', n', by omega, a2, a3, a4, a5, frX_trans h1 a6, frY_trans h2 a7⟩
theorem frX_cd {n : Nat} {c v : Int32} : frX I (ab_u (ab_u I 16 n c) 15 1 v) := ⟨fun r _ a b => by rw [u_r a, u_r b], by rw [u_r (by omega), u_r (by omega)]⟩
theorem frY_cd {n : Nat} {c v : Int32} : frY M (ab_u (ab_u M 208 n c) 207 1 v) := ⟨fun r _ a b => by rw [u_r a, u_r b], by rw [u_r (by omega), u_r (by omega)]⟩
theorem r_s2 : ab_fR (S0, I, J, x) 7 1 3 = some 4 := fR_X7_3 okR
theorem d3_s5 : ab_fR (S0, I, J, x) 1 4 5 = some 15 := op_fR (fs := [some (some 5), some (some 7), some (some 9), some (some 11), some (some 13), some (some 15)]) rfl rfl
/-- the class's loop has ended in a failure -/
theorem c_sum0 (cf cs : Nat → Int32 → ab_Mm → Option (Int32 × ab_Mm)) (fu : Nat) (b a it : Int32) : bb_X7_sum_11 cf cs (fu + 1) 1 b a 0 it (S0, I, J, x) = some (0, (S0, I, J, x)) := by
  rw [bb_X7_sum_11]
  split
  · rw [bb_X7_sum_146, h01, if_neg (by simp)]
  · rw [if_pos rfl, bb_X7_sum_146, h01, if_neg (by simp)]
theorem gK_43 (f s t : Nat → ab_Mm → Option (Int32 × ab_Mm)) (a fs : Nat) (ha : a = 43 ∨ a = 45) (m : ab_Mm) : bb_X12_sum_42 f s t (bb_X12_sum_9 f s t fs) 200 (cO a) m = (ab_rc m 12 200).bind fun _ => (dd_X12_advance 200 m).bind fun q1 => (ab_rc q1.2 12 200).bind fun _ => (t 200 q1.2).bind (gK f s t a fs) := by
  have e : gK f s t a fs = fun q2 => if q2.1 = 0 then some (0, q2.2) else (ab_rc q2.2 12 200).bind fun _ => (dd_X12_emit 200 (cO a) q2.2).bind fun q3 => bb_X12_sum_9 f s t fs 200 q3.2 := by
    funext q
    unfold gK tlK
    rw [if_neg (show ¬ a = 0 by omega)]
  rw [e]
  rfl
/-- the loop's statement -/
def LPs (T : Nat → Int32) (N : Nat) (I0 M0 : Nat → Nat → Int32) (J : Nat → Nat → Int64) (x : Nat) (J' : Nat → Nat → Int64) (x' b F G R : Nat) : Prop := ∀ (p fu fs ft : Nat) (I M : Nat → Nat → Int32) (n q D a it : Nat), N ≤ p + R → R + 1 < fu → R + 1 < fs → R + 1 < ft → (a = 0 ∨ a = 43 ∨ a = 45) → it ≤ p → STT T N p I0 M0 I M → M 200 20 = nI b → XP I M n (D + 1 + (if a = 0 then 0 else 1)) → n + (if a = 0 then 0 else 1) + q ≤ p → D + 2 * (5 - b) + 2 < 13 →
    LK I0 M0 J x J' x' (bb_X7_sum_11 (dd_X7_factor F) (dd_X7_sum F) fu 1 (nI b) (nI a) 1 (nI it) (S0, I, J, x)) ((bb_X12_term_9 (dd_X12_factor G) (dd_X12_sum G) (dd_X12_term G) ft 200 (S0, M, J', x')).bind (gK (dd_X12_factor (G + 1)) (dd_X12_sum (G + 1)) (dd_X12_term (G + 1)) a fs)) (fun I' M' => okX T N p I0 M0 I M b q (D + 1) I' M')
theorem L_sumLoop {b F G : Nat} (hb : b ≤ 5) (fa : FA T N I0 M0 J x J' x' b F G) : ∀ R, LPs T N I0 M0 J x J' x' b F G R := by
  intro R
  induction R using Nat.strongRecOn with
  | ind R ih =>
    intro p fu fs ft I M n q D a it hR e1 e2 e3 ha hit h h20 hx hn hD
    obtain ⟨fu, rfl⟩ : ∃ z, fu = z + 1 := ⟨fu - 1, by omega⟩
    obtain ⟨fs, rfl⟩ : ∃ z, fs = z + 1 := ⟨fs - 1, by omega⟩
    obtain ⟨ft, rfl⟩ : ∃ z, ft = z + 1 := ⟨ft - 1, by omega⟩
    have hp := h.1.2.1
    have hN := h.1.1.1
    have hst := stt_le (T := T) hp
    have k42 : (kdC T N p = 42) = (tk T N p = 4 ∧ T (stt T N p) = 42) := kdC_sg s42
    have k47 : (kdC T N p = 47) = (tk T N p = 4 ∧ T (stt T N p) = 47) := kdC_sg s47
    have k43 : (kdC T N p = 43) = (tk T N p = 4 ∧ T (stt T N p) = 43) := kdC_sg s43
    have k45 : (kdC T N p = 45) = (tk T N p = 4 ∧ T (stt T N p) = 45) := kdC_sg s45
    have sg42 := m_signHere (J := J') (x := x') h.2.1 42
    have sg47 := m_signHere (J := J') (x := x') h.2.1 47
    have m15 := h.2.1.2.2.2.2.2.2
    rw [bb_X7_sum_11, if_neg (show ¬ (800 : Int32) < nI it by rw [li_n 800, li_lt (by omega) (by omega)]; omega), if_neg n10, r_f8, ob_s, h.1.2.2.2.2]
    by_cases pr : tk T N p = 4 ∧ (T (stt T N p) = 42 ∨ T (stt T N p) = 47)
    · have htk : tk T N p ≠ 0 := by omega
      have hlt := tk_st htk
      have hpn := (nxt_le (T := T) hp).2.2 htk
      have ek : kdC T N p = T (stt T N p) := by unfold kdC; rw [if_pos pr.1]
      obtain ⟨e, he, hne, hm⟩ : ∃ e : Int32, cdp (-kdC T N p) e ∧ ¬ 0 < e ∧ bb_X12_term_9 (dd_X12_factor G) (dd_X12_sum G) (dd_X12_term G) (ft + 1) 200 (S0, M, J', x') = bb_X12_term_43 (dd_X12_factor G) (dd_X12_sum G) (dd_X12_term G) (bb_X12_term_9 (dd_X12_factor G) (dd_X12_sum G) (dd_X12_term G) ft) 200 e (S0, M, J', x') := by
        rcases pr.2 with z | z
        · refine ⟨-3, by rw [ek, z]; exact cdp_42, by decide, ?_⟩
          rw [bb_X12_term_9, m_rc, ob_s, sg42, ob_s, if_pos (show tk T N p = 4 ∧ T (stt T N p) = 42 from ⟨pr.1, z⟩), if_neg n10, bb_X12_term_27, m_F15, ob_s, m15 pr.1, if_pos z]
        · refine ⟨-4, by rw [ek, z]; exact cdp_47, by decide, ?_⟩
          have n42 : ¬ (tk T N p = 4 ∧ T (stt T N p) = 42) := fun y => by rw [z] at y; exact absurd y.2 (by decide)
          rw [bb_X12_term_9, m_rc, ob_s, sg42, ob_s, if_neg n42, if_pos rfl, m_rc, ob_s, sg47, ob_s, if_pos (show tk T N p = 4 ∧ T (stt T N p) = 47 from ⟨pr.1, z⟩), if_neg n10, bb_X12_term_27, m_F15, ob_s, m15 pr.1, if_neg (by rw [z]; decide)]
      have n43 : ¬ kdC T N p = 43 := by rw [ek]; rcases pr.2 with z | z <;> rw [z] <;> decide
      have n45 : ¬ kdC T N p = 45 := by rw [ek]; rcases pr.2 with z | z <;> rw [z] <;> decide
      have hc : (if kdC T N p = 42 then bb_X7_sum_43 (dd_X7_factor F) (dd_X7_sum F) (bb_X7_sum_11 (dd_X7_factor F) (dd_X7_sum F) fu) 1 (nI b) (nI a) (nI it) (kdC T N p) (S0, I, J, x) else if kdC T N p = 47 then bb_X7_sum_43 (dd_X7_factor F) (dd_X7_sum F) (bb_X7_sum_11 (dd_X7_factor F) (dd_X7_sum F) fu) 1 (nI b) (nI a) (nI it) (kdC T N p) (S0, I, J, x) else bb_X7_sum_48 (dd_X7_factor F) (dd_X7_sum F) (bb_X7_sum_11 (dd_X7_factor F) (dd_X7_sum F) fu) 1 (nI b) (nI a) (nI it) (kdC T N p) 0 (S0, I, J, x)) = bb_X7_sum_106 (dd_X7_factor F) (dd_X7_sum F) (bb_X7_sum_11 (dd_X7_factor F) (dd_X7_sum F) fu) 1 (nI b) (nI a) (nI it) (kdC T N p) 1 (S0, I, J, x) := by
        have go : bb_X7_sum_43 (dd_X7_factor F) (dd_X7_sum F) (bb_X7_sum_11 (dd_X7_factor F) (dd_X7_sum F) fu) 1 (nI b) (nI a) (nI it) (kdC T N p) (S0, I, J, x) = bb_X7_sum_106 (dd_X7_factor F) (dd_X7_sum F) (bb_X7_sum_11 (dd_X7_factor F) (dd_X7_sum F) fu) 1 (nI b) (nI a) (nI it) (kdC T N p) 1 (S0, I, J, x) := by
          rw [bb_X7_sum_43, bb_X7_sum_48, if_neg n43, if_neg n45, bb_X7_sum_69, if_neg n10, bb_X7_sum_94, if_neg n10]
        rcases pr.2 with z | z
        · rw [if_pos (by rw [k42]; exact ⟨pr.1, z⟩)]; exact go
        · rw [if_neg (by rw [k42]; intro y; rw [z] at y; exact absurd y.2 (by decide)), if_pos (by rw [k47]; exact ⟨pr.1, z⟩)]; exact go
      rw [hc, hm]
      obtain ⟨I1, M1, r1, r2, r3, r4, r5⟩ := L_adv (J := J) (x := x) (J' := J') (x' := x') h
      have x1 : XP I1 M1 n (D + 1 + (if a = 0 then 0 else 1)) := XP_sam hx (r4.1 15 (by omega)) (r4.1 16 (by omega)) (r5.1 207 (by omega)) (r5.1 208 (by omega))
      have b1 : M1 200 20 = nI b := by rw [r5.2 20 (by omega)]; exact h20
      have hA : (if a = 0 then 0 else 1) ≤ 1 := by split <;> omega
      rw [bb_X7_sum_106, r_rc, ob_s, r1, ob_s, r_rc, ob_s, bb_X12_term_43, m_rc, ob_s, r2, ob_s, m_rc, ob_s]
      refine LK_bind3 (fa (nxt T N p) I1 M1 n (q + (if a = 0 then 0 else 1) + 1) _ r3 b1 x1 (by omega) (by omega)) (fun Ia => ?_) (fun Ma => ?_) (fun I2 M2 z => ?_)
      · obtain ⟨I', g1, g2⟩ := c_addAny (I := Ia) (J := J) (x := x) (-kdC T N p)
        refine ⟨I', ?_, g2⟩
        dsimp only
        rw [if_neg n10, r_s2, ob_s, d3_s5, ob_s, rc_X9 okS14, ob_s, g1, ob_s, bb_X7_sum_140]
        obtain ⟨fu, rfl⟩ : ∃ z, fu = z + 1 := ⟨fu - 1, by omega⟩
        exact c_sum0 _ _ fu _ _ _
      · dsimp only
        rw [if_pos rfl, ob_s, gK]
        exact if_pos rfl
      · obtain ⟨p1, hp1, p2, n2, hp2, t1, t2, t3, t4, t5, t6⟩ := z
        have hp2N := t1.1.2.1
        dsimp only
        rw [if_neg n10, r_s2, ob_s, d3_s5, ob_s, rc_X9 okS14, ob_s, c_add _ t3.1 (by omega), ob_s, bb_X7_sum_140, nI_1, if_neg n10, m_rc, ob_s, m_emit e t3.2.1 (by omega), ob_s]
        have x3 := XP_both t3 he (fun z => absurd z hne) (fun _ => by omega)
        rw [if_neg hne] at x3
        have h3 : STT T N p2 I0 M0 (ab_u (ab_u I2 16 n2 (-kdC T N p)) 15 1 (nI (n2 + 1))) (ab_u (ab_u M2 208 (820 + n2) e) 207 1 (nI (n2 + 1))) := STT_uM (STT_uM (STT_uC (STT_uC t1 _ (by omega)) _ (by omega)) _ (by omega)) _ (by omega)
        refine LK_weak (ih (N - p2) (by omega) p2 fu (fs + 1) ft _ _ (n2 + 1) q D a (it + 1) (by omega) (by omega) (by omega) (by omega) ha (by omega) h3 (by rw [u_r (by omega), u_r (by omega)]; exact t2) (by rw [show D + 1 + (if a = 0 then 0 else 1) + 1 - 1 = D + 1 + (if a = 0 then 0 else 1) by omega] at x3; exact x3) (by omega) hD) (fun I' M' y => okX_tr (by omega) (frX_trans (frX_trans (frX_ad r4) t5) frX_cd) (frY_trans (frY_trans (frY_ad r5) t6) frY_cd) y)
    · have n42 : ¬ (tk T N p = 4 ∧ T (stt T N p) = 42) := fun z => pr ⟨z.1, Or.inl z.2⟩
      have n47 : ¬ (tk T N p = 4 ∧ T (stt T N p) = 47) := fun z => pr ⟨z.1, Or.inr z.2⟩
      have hm : bb_X12_term_9 (dd_X12_factor G) (dd_X12_sum G) (dd_X12_term G) (ft + 1) 200 (S0, M, J', x') = some (1, (S0, M, J', x')) := by
        rw [bb_X12_term_9, m_rc, ob_s, sg42, ob_s, if_neg n42, if_pos rfl, m_rc, ob_s, sg47, ob_s, if_neg n47, if_pos rfl]
      rw [if_neg (by rw [k42]; exact n42), if_neg (by rw [k47]; exact n47), hm, ob_s, gK, if_neg n10]
      dsimp only
      -- what follows once nothing waits
      have tail : ∀ (I1 M1 : Nat → Nat → Int32) (n1 : Nat), STT T N p I0 M0 I1 M1 → M1 200 20 = nI b → XP I1 M1 n1 (D + 1) → n1 + q ≤ p → frX I I1 → frY M M1 →
          ((tk T N p = 4 ∧ (T (stt T N p) = 43 ∨ T (stt T N p) = 45)) → LK I0 M0 J x J' x' (bb_X7_sum_94 (dd_X7_factor F) (dd_X7_sum F) (bb_X7_sum_11 (dd_X7_factor F) (dd_X7_sum F) fu) 1 (nI b) 0 (nI it) (kdC T N p) 0 1 (S0, I1, J, x)) (bb_X12_sum_9 (dd_X12_factor (G + 1)) (dd_X12_sum (G + 1)) (dd_X12_term (G + 1)) (fs + 1) 200 (S0, M1, J', x')) (fun I' M' => okX T N p I0 M0 I M b q (D + 1) I' M')) ∧
          (¬ (tk T N p = 4 ∧ (T (stt T N p) = 43 ∨ T (stt T N p) = 45)) → LK I0 M0 J x J' x' (bb_X7_sum_94 (dd_X7_factor F) (dd_X7_sum F) (bb_X7_sum_11 (dd_X7_factor F) (dd_X7_sum F) fu) 1 (nI b) 0 (nI it) (kdC T N p) 0 0 (S0, I1, J, x)) (bb_X12_sum_9 (dd_X12_factor (G + 1)) (dd_X12_sum (G + 1)) (dd_X12_term (G + 1)) (fs + 1) 200 (S0, M1, J', x')) (fun I' M' => okX T N p I0 M0 I M b q (D + 1) I' M')) := by
        intro I1 M1 n1 h1 b1 x1 hn1 fx fy
        have g43 := m_signHere (J := J') (x := x') h1.2.1 43
        have g45 := m_signHere (J := J') (x := x') h1.2.1 45
        have m15 := h1.2.1.2.2.2.2.2.2
        refine ⟨fun ad => ?_, fun nad => ?_⟩
        · have htk : tk T N p ≠ 0 := by omega
          have hlt := tk_st htk
          have hpn := (nxt_le (T := T) hp).2.2 htk
          have ek : kdC T N p = T (stt T N p) := by unfold kdC; rw [if_pos ad.1]
          obtain ⟨s, hs, es, hsum⟩ : ∃ s : Nat, (s = 43 ∨ s = 45) ∧ T (stt T N p) = nI s ∧ bb_X12_sum_9 (dd_X12_factor (G + 1)) (dd_X12_sum (G + 1)) (dd_X12_term (G + 1)) (fs + 1) 200 (S0, M1, J', x') = bb_X12_sum_42 (dd_X12_factor (G + 1)) (dd_X12_sum (G + 1)) (dd_X12_term (G + 1)) (bb_X12_sum_9 (dd_X12_factor (G + 1)) (dd_X12_sum (G + 1)) (dd_X12_term (G + 1)) fs) 200 (cO s) (S0, M1, J', x') := by
            rcases ad.2 with z | z
            · refine ⟨43, Or.inl rfl, z, ?_⟩
              rw [bb_X12_sum_9, m_rc, ob_s, g43, ob_s, if_pos (show tk T N p = 4 ∧ T (stt T N p) = 43 from ⟨ad.1, z⟩), if_neg n10, bb_X12_sum_27, m_F15, ob_s, m15 ad.1, if_pos z]
              rfl
            · refine ⟨45, Or.inr rfl, z, ?_⟩
              have n43 : ¬ (tk T N p = 4 ∧ T (stt T N p) = 43) := fun y => by rw [z] at y; exact absurd y.2 (by decide)
              rw [bb_X12_sum_9, m_rc, ob_s, g43, ob_s, if_neg n43, if_pos rfl, m_rc, ob_s, g45, ob_s, if_pos (show tk T N p = 4 ∧ T (stt T N p) = 45 from ⟨ad.1, z⟩), if_neg n10, bb_X12_sum_27, m_F15, ob_s, m15 ad.1, if_neg (by rw [z]; decide)]
              rfl
          obtain ⟨I2, M2, r1, r2, r3, r4, r5⟩ := L_adv (J := J) (x := x) (J' := J') (x' := x') h1
          have x2 : XP I2 M2 n1 (D + 1) := XP_sam x1 (r4.1 15 (by omega)) (r4.1 16 (by omega)) (r5.1 207 (by omega)) (r5.1 208 (by omega))
          have b2 : M2 200 20 = nI b := by rw [r5.2 20 (by omega)]; exact b1
          rw [bb_X7_sum_94, if_pos rfl, if_neg n10, bb_X7_sum_106, r_rc, ob_s, r1, ob_s, r_rc, ob_s, hsum, gK_43 _ _ _ s fs hs, m_rc, ob_s, r2, ob_s, m_rc, ob_s]
          show LK I0 M0 J x J' x' _ ((st_X12_term (dd_X12_factor G) (dd_X12_sum G) (dd_X12_term G) 200 (S0, M2, J', x')).bind (gK (dd_X12_factor (G + 1)) (dd_X12_sum (G + 1)) (dd_X12_term (G + 1)) s fs)) _
          unfold st_X12_term
          rw [m_rc, ob_s]
          refine LK_bind3 (fa (nxt T N p) I2 M2 n1 (q + 1) _ r3 b2 x2 (by omega) (by omega)) (fun Ia => ?_) (fun Ma => ?_) (fun I3 M3 z => ?_)
          · refine ⟨Ia, ?_, fun _ _ _ => rfl⟩
            dsimp only
            rw [if_pos rfl, bb_X7_sum_140]
            obtain ⟨fu, rfl⟩ : ∃ z, fu = z + 1 := ⟨fu - 1, by omega⟩
            exact c_sum0 _ _ fu _ _ _
          · dsimp only
            rw [if_pos rfl, ob_s, gK]
            exact if_pos rfl
          · obtain ⟨p1, hp1, p2, n2, hp2, t1, t2, t3, t4, t5, t6⟩ := z
            have hp2N := t1.1.2.1
            dsimp only
            rw [if_pos rfl, bb_X7_sum_140, nI_1, if_neg n10, ek, es]
            have s0 : ¬ s = 0 := by omega
            refine LK_weak (ih (N - p2) (by omega) p2 fu fs ab_fu _ _ n2 q D s (it + 1) (by omega) (by omega) (by omega) (ab_fu_big (by omega)) (Or.inr hs) (by omega) t1 t2 (by rw [if_neg s0]; exact t3) (by rw [if_neg s0]; omega) hD) (fun I' M' y => okX_tr (by omega) (frX_trans (frX_trans fx (frX_ad r4)) t5) (frY_trans (frY_trans fy (frY_ad r5)) t6) y)
        · have n43 : ¬ (tk T N p = 4 ∧ T (stt T N p) = 43) := fun z => nad ⟨z.1, Or.inl z.2⟩
          have n45 : ¬ (tk T N p = 4 ∧ T (stt T N p) = 45) := fun z => nad ⟨z.1, Or.inr z.2⟩
          rw [bb_X7_sum_94, if_pos rfl, if_pos rfl, bb_X12_sum_9, m_rc, ob_s, g43, ob_s, if_neg n43, if_pos rfl, m_rc, ob_s, g45, ob_s, if_neg n45, if_pos rfl]
          exact Or.inl ⟨I1, M1, rfl, rfl, p, n1, Nat.le_refl _, h1, b1, x1, hn1, fx, fy⟩
      -- the sign's kind
      have go : ∀ l7 : Int32, (l7 = 1 ∧ (tk T N p = 4 ∧ (T (stt T N p) = 43 ∨ T (stt T N p) = 45))) ∨ (l7 = 0 ∧ ¬ (tk T N p = 4 ∧ (T (stt T N p) = 43 ∨ T (stt T N p) = 45))) → LK I0 M0 J x J' x' (bb_X7_sum_69 (dd_X7_factor F) (dd_X7_sum F) (bb_X7_sum_11 (dd_X7_factor F) (dd_X7_sum F) fu) 1 (nI b) (nI a) (nI it) (kdC T N p) 0 l7 (S0, I, J, x)) (tlK (dd_X12_factor (G + 1)) (dd_X12_sum (G + 1)) (dd_X12_term (G + 1)) a (fs + 1) (S0, M, J', x')) (fun I' M' => okX T N p I0 M0 I M b q (D + 1) I' M') := by
        intro l7 hl
        rw [bb_X7_sum_69, if_pos rfl, tlK]
        by_cases a0 : a = 0
        · rw [if_pos a0, if_pos (by rw [a0]; rfl)]
          rw [if_pos a0] at hx hn
          have tl := tail I M n h h20 hx (by omega) ⟨fun _ _ _ _ => rfl, rfl⟩ ⟨fun _ _ _ _ => rfl, rfl⟩
          have ea : nI a = 0 := by rw [a0]; rfl
          rw [ea]
          rcases hl with ⟨z1, z2⟩ | ⟨z1, z2⟩
          · rw [z1]; exact tl.1 z2
          · rw [z1]; exact tl.2 z2
        · rw [if_neg a0] at hx hn
          have aO : cdp (-nI a) (cO a) ∧ ¬ 0 < cO a := by
            rcases ha with z | z | z
            · exact absurd z a0
            · rw [z]; exact ⟨cdp_p.1, cdp_p.2.2.1⟩
            · rw [z]; exact ⟨cdp_p.2.1, cdp_p.2.2.2⟩
          have ea : ¬ nI a = 0 := by
            rcases ha with z | z | z
            · exact absurd z a0
            · rw [z]; decide
            · rw [z]; decide
          rw [if_neg a0, if_neg ea, r_s2, ob_s, d3_s5, ob_s, rc_X9 okS14, ob_s, c_add _ hx.1 (by omega), ob_s, m_rc, ob_s, m_emit _ hx.2.1 (by omega), ob_s]
          have x3 := XP_both hx aO.1 (fun z => absurd z aO.2) (fun _ => by omega)
          rw [if_neg aO.2, show D + 1 + 1 - 1 = D + 1 by omega] at x3
          have h3 : STT T N p I0 M0 (ab_u (ab_u I 16 n (-nI a)) 15 1 (nI (n + 1))) (ab_u (ab_u M 208 (820 + n) (cO a)) 207 1 (nI (n + 1))) := STT_uM (STT_uM (STT_uC (STT_uC h _ (by omega)) _ (by omega)) _ (by omega)) _ (by omega)
          have tl := tail _ _ (n + 1) h3 (by rw [u_r (by omega), u_r (by omega)]; exact h20) x3 (by omega) frX_cd frY_cd
          rcases hl with ⟨z1, z2⟩ | ⟨z1, z2⟩
          · rw [z1]; exact tl.1 z2
          · rw [z1]; exact tl.2 z2
      rw [bb_X7_sum_48]
      by_cases c43 : tk T N p = 4 ∧ T (stt T N p) = 43
      · rw [if_pos (by rw [k43]; exact c43), bb_X7_sum_64]
        exact go 1 (Or.inl ⟨rfl, c43.1, Or.inl c43.2⟩)
      · rw [if_neg (by rw [k43]; exact c43)]
        by_cases c45 : tk T N p = 4 ∧ T (stt T N p) = 45
        · rw [if_pos (by rw [k45]; exact c45), bb_X7_sum_64]
          exact go 1 (Or.inl ⟨rfl, c45.1, Or.inr c45.2⟩)
        · rw [if_neg (by rw [k45]; exact c45)]
          exact go 0 (Or.inr ⟨rfl, fun z => by
            rcases z.2 with y | y
            · exact c43 ⟨z.1, y⟩
            · exact c45 ⟨z.1, y⟩⟩)
/-- a sum -/
theorem L_sum {b F G : Nat} (hb : b ≤ 5) (fa : FA T N I0 M0 J x J' x' b F G) : SA T N I0 M0 J x J' x' b (F + 1) (G + 2) := by
  intro p I M n q D h h20 hx hq hD
  have hN := h.1.1.1
  show LK I0 M0 J x J' x' (st_X7_sum (dd_X7_factor F) (dd_X7_sum F) 1 (nI b) (S0, I, J, x)) (st_X12_sum (dd_X12_factor (G + 1)) (dd_X12_sum (G + 1)) (dd_X12_term (G + 1)) 200 (S0, M, J', x')) _
  unfold st_X7_sum st_X12_sum
  rw [r_rc, ob_s, m_rc, ob_s]
  have eg : (fun q1 : Int32 × ab_Mm => if q1.1 = 0 then some ((0 : Int32), q1.2) else bb_X12_sum_9 (dd_X12_factor (G + 1)) (dd_X12_sum (G + 1)) (dd_X12_term (G + 1)) ab_fu 200 q1.2) = gK (dd_X12_factor (G + 1)) (dd_X12_sum (G + 1)) (dd_X12_term (G + 1)) 0 ab_fu := rfl
  rw [eg]
  show LK I0 M0 J x J' x' _ ((st_X12_term (dd_X12_factor G) (dd_X12_sum G) (dd_X12_term G) 200 (S0, M, J', x')).bind (gK (dd_X12_factor (G + 1)) (dd_X12_sum (G + 1)) (dd_X12_term (G + 1)) 0 ab_fu)) _
  unfold st_X12_term
  rw [m_rc, ob_s]
  refine LK_bind2 (fa p I M n q D h h20 hx hq (by omega)) (fun Ia => ?_) (fun Ma => ?_) (fun I3 M3 z => ?_)
  · dsimp only
    exact c_sum0 _ _ 999999 _ _ _
  · dsimp only
    rw [if_pos rfl, ob_s, gK]
    exact if_pos rfl
  · obtain ⟨p1, hp1, p2, n2, hp2, t1, t2, t3, t4, t5, t6⟩ := z
    have hp2N := t1.1.2.1
    dsimp only
    rw [if_neg n10]
    exact LK_weak (L_sumLoop hb fa (N - p2) p2 ab_fu ab_fu ab_fu _ _ n2 q D 0 0 (by omega) (ab_fu_big (by omega)) (ab_fu_big (by omega)) (ab_fu_big (by omega)) (Or.inl rfl) (by omega) t1 t2 (by rw [if_pos rfl]; exact t3) (by rw [if_pos rfl]; omega) hD) (fun I' M' y => ⟨p1, hp1, okX_tr (by omega) t5 t6 y⟩)
/-- all the levels -/
theorem L_levels (u v : Nat) : ∀ k, k ≤ 5 → FA T N I0 M0 J x J' x' (5 - k) (1 + 2 * k + u) (1 + 3 * k + v)
  | 0, _ => by
    have q := L_factor (T := T) (N := N) (I0 := I0) (M0 := M0) (J := J) (x := x) (J' := J') (x' := x') (b := 5) (F := u) (G := v) (by omega) (fun z => by omega)
    rw [show 1 + 2 * 0 + u = u + 1 by omega, show 1 + 3 * 0 + v = v + 1 by omega]
    exact q
  | k + 1, hk => by
    have fa := L_levels u v k (by omega)
    have sa := L_sum (by omega) fa
    have e : 5 - (k + 1) + 1 = 5 - k := by omega
    have q := L_factor (T := T) (N := N) (I0 := I0) (M0 := M0) (J := J) (x := x) (J' := J') (x' := x') (b := 5 - (k + 1)) (F := 1 + 2 * k + u + 1) (G := 1 + 3 * k + v + 2) (by omega) (fun _ => by rw [e]; exact sa)
    rw [show 1 + 2 * (k + 1) + u = 1 + 2 * k + u + 1 + 1 by omega, show 1 + 3 * (k + 1) + v = 1 + 3 * k + v + 2 + 1 by omega]
    exact q
theorem L_sum30 : SA T N I0 M0 J x J' x' 0 30 30 := L_sum (F := 29) (G := 28) (by omega) (L_levels 18 12 5 (by omega))
end SL
