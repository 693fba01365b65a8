/-! ===== undo and snapshots ===== -/
section UN
variable {I I' : Nat → Nat → Int32} {J J' : Nat → Nat → Int64} {x : Nat} {NH NY NE NR s d u tp : Nat} {f g : Nat → Int64} {H S : Nat → Nat → Int64} {b : Nat → Bool}
def tl (H : Nat → Nat → Int64) : Nat → Nat → Int64 := fun k => H (k + 1)
theorem c_R4 : ab_fR (S0, I, J, x) 11 0 4 = some 52 := op_fR okC rfl
/-- cells of the present situation may change; the constants stay -/
theorem Cst_31 (h : Cst I) (o : onl 32 I I') : Cst I' := Cst_sam h (fun r _ _ => o r (by omega)) (fun r _ _ => o r (by omega))
theorem c_takeBack0 (h : InvC I J NH NY NE f 0 tp H b S) : dd_X4_takeBack 52 32 (S0, I, J, x) = some (0, (S0, I, J, x)) := by
  obtain ⟨hr, hC, ⟨u10, tp10, hu, ht, hh⟩, hS⟩ := h
  have key : ∀ v : Int32, bb_X4_takeBack_23 52 32 v (S0, I, J, x) = some (0, (S0, I, J, x)) := by
    intro v
    unfold bb_X4_takeBack_23
    rw [fI_X4_2 okH, ob_s, hu, if_pos (by decide)]
    rfl
  unfold dd_X4_takeBack
  rw [fI_X4_3 okH, ob_s]
  by_cases h : I 52 3 ≤ 0
  · rw [if_pos h, fR_X4_0 okH, ob_s]
    show ((ab_len (S0, I, J, x) 5 53).bind _) = _
    rw [h_len52, ob_s]
    exact key _
  · rw [if_neg h, ob_s]
    exact key _
theorem c_takeBack (h6 : NY ≤ 6) (h : InvC I J NH NY NE f u tp H b S) (hu0 : 0 < u) : ∃ I' J', dd_X4_takeBack 52 32 (S0, I, J, x) = some (1, (S0, I', J', x)) ∧ InvC I' J' NH NY NE (H 0) (u - 1) ((tp + 9) % 10) (tl H) b S ∧ (∀ r, r < 32 ∨ (42 ≤ r ∧ r ≠ 52) → I' r = I r) ∧ (∀ r, r ≠ 41 → J' r = J r) := by
  obtain ⟨hr, hC, ⟨u10, tp10, hu, ht, hh⟩, hS⟩ := h
  have h0 := hh 0 hu0
  rw [Nat.sub_zero] at h0
  have hlt : (tp + 9) % 10 < 10 := by omega
  have key : bb_X4_takeBack_23 52 32 (nI ((tp + 9) % 10)) (S0, I, J, x) = dd_X4_takeBack 52 32 (S0, I, J, x) := by
    unfold dd_X4_takeBack
    rw [fI_X4_3 okH, ob_s, ht]
    by_cases h : tp = 0
    · subst h
      rw [if_pos (by decide), fR_X4_0 okH, ob_s]
      show _ = ((ab_len (S0, I, J, x) 5 53).bind _)
      rw [h_len52, ob_s]
      rfl
    · rw [if_neg (by rw [li_0, li_le (by omega) (by omega)]; omega), ob_s, li_n 1, pk_sub (by omega), show (tp + 9) % 10 = tp - 1 by omega]
  rw [← key]
  generalize hp : (tp + 9) % 10 = p at h0 hlt ⊢
  obtain ⟨I1, J1, e1, o1, q1, k1, r1⟩ := @RS_copy I J x NH NY NE (55 + 10 * p) 32 (H 0) si31 (siP p (by omega)) (by omega) hr.1.1 (by omega) (by omega) h6 h0
  unfold bb_X4_takeBack_23
  rw [fI_X4_2 okH, ob_s, hu, if_neg (by rw [li_0, li_le (by omega) (by omega)]; omega), if_neg (li_pos (by omega)), fR_X4_0 okH, ob_s]
  show ∃ I' J', ((ab_len (S0, I, J, x) 5 53).bind _) = _ ∧ _
  rw [h_len52, ob_s, if_neg (by rw [li_le (by omega) (by omega)]; omega), ob_s]
  show ∃ I' J', ((ab_ldR (S0, I, J, x) 53 (nI p)).bind _) = _ ∧ _
  rw [h_ld52 p hlt, ob_s, ob_s]
  show ∃ I' J', ((ab_ldR (S0, I, J, x) 53 (nI p)).bind _) = _ ∧ _
  have u1 : ab_u I1 52 3 (nI p) 52 2 = nI u := by rw [u_k (by omega), o1 52 (by omega)]; exact hu
  rw [h_ld52 p hlt, ob_s, rc_X8 si31.1, ob_s, e1, ob_s, pI_X4_3 okH, ob_s, fI_X4_2 okH, ob_s, u1, li_n 1, pk_sub (by omega), pI_X4_2 okH, ob_s]
  have z : ∀ r, r ≠ 52 → ab_u (ab_u I1 52 3 (nI p)) 52 2 (nI (u - 1)) r = I1 r := fun r hr => by rw [u_r hr, u_r hr]
  have z2 : ab_u (ab_u I1 52 3 (nI p)) 52 2 (nI (u - 1)) 52 2 = nI (u - 1) := u_e
  have z3 : ab_u (ab_u I1 52 3 (nI p)) 52 2 (nI (u - 1)) 52 3 = nI p := by rw [u_k (by omega), u_e]
  have z4 : ab_u (ab_u I1 52 3 (nI p)) 52 2 (nI (u - 1)) 52 4 = I1 52 4 := by rw [u_k (by omega), u_k (by omega)]
  generalize ab_u (ab_u I1 52 3 (nI p)) 52 2 (nI (u - 1)) = I2 at z z2 z3 z4 ⊢
  have off : ∀ r, r < 32 ∨ (42 ≤ r ∧ r ≠ 52) → I2 r = I r := fun r h1 => (z r (by omega)).trans (o1 r (by omega))
  have s2 : sam 201 207 I I2 := fun r h1 h2 => off r (by omega)
  refine ⟨I2, J1, rfl, ⟨RS_sam r1 (fun r h1 h2 => z r (by omega)) (fun r h1 h2 => z r (by omega)) rfl, ?_, ⟨by omega, hlt, z2, z3, fun k hk => ?_⟩, SvC_sam hS (by rw [z4, o1 52 (by omega)]) (fun r h1 h2 => off r (by omega)) s2 (fun r h1 h2 => k1 r (by omega))⟩, off, fun r h => k1 r (by omega)⟩
  · have c1 := Cst_31 hC o1
    obtain ⟨a, a2, a3, a4, a5, a6⟩ := c1
    refine ⟨?_, fun k hk => ?_, ?_, ?_, ?_, ?_⟩
    · unfold siI tI at a ⊢
      rw [z (42 + 1) (by omega), z (42 + 3) (by omega), z (42 + 5) (by omega), z (42 + 7) (by omega)]
      exact a
    · have q := a2 k hk
      unfold siI tI at q ⊢
      rw [z (55 + 10 * k + 1) (by omega), z (55 + 10 * k + 3) (by omega), z (55 + 10 * k + 5) (by omega), z (55 + 10 * k + 7) (by omega)]
      exact q
    · unfold bI tI at a3 ⊢
      rw [z 176 (by omega), z 178 (by omega)]
      exact a3
    · unfold tI at a4 ⊢
      rw [z 183 (by omega)]
      exact a4
    · unfold tP tI at a5 ⊢
      rw [z 198 (by omega), z 193 (by omega)]
      exact a5
    · unfold clI tI at a6 ⊢
      rw [z (4 + 1) (by omega), z (4 + 3) (by omega), z (4 + 5) (by omega), z (4 + 7) (by omega), z (4 + 9) (by omega)]
      exact a6
  · have q := hh (k + 1) (by omega)
    rw [show (p + 9 - k) % 10 = (tp + 9 - (k + 1)) % 10 by omega]
    exact RS_sam q (fun r h1 h2 => off r (by omega)) s2 (k1 _ (by omega))
/-- the sum of a migration: class and model -/
def cdp (c e : Int32) : Prop := (∃ v, v ≤ 9999 ∧ c = nI v ∧ e = nI (100 + v)) ∨ (c = -1 ∧ e = 1) ∨ (c = -2 ∧ e = 2) ∨ (c = -3 ∧ e = 3) ∨ (c = -4 ∧ e = 4) ∨ (c = -43 ∧ e = -1) ∨ (c = -45 ∧ e = -2) ∨ (c = -42 ∧ e = -3) ∨ (c = -47 ∧ e = -4)
/-- how many values are open behind k codes -/
def dpt (c : Nat → Int32) : Nat → Nat
  | 0 => 0
  | k + 1 => if 0 < c k then dpt c k + 1 else dpt c k - 1
/-- codes, class and model, that make a sum -/
def cdN (c e : Nat → Int32) (n : Nat) : Prop := (∀ k, k < n → cdp (c k) (e k) ∧ (0 < e k → dpt e k < 13) ∧ (¬ 0 < e k → 2 ≤ dpt e k)) ∧ dpt e n = 1
def cdR (I : Nat → Nat → Int32) : Prop := ∃ n, n ≤ 800 ∧ I 29 1 = nI n ∧ I 207 0 = nI n ∧ cdN (I 30) (I 208) n
/-- the reference's sums of the empty set stay 0 -/
def zr (I I' : Nat → Nat → Int32) : Prop := I' 213 0 = I 213 0 ∧ I' 214 0 = I 214 0
/-- the input buffers -/
def Rdr (I : Nat → Nat → Int32) : Prop := (I 213 0 = 0 ∧ I 214 0 = 0) ∧ ∃ n, n ≤ 800 ∧ I 1 1 = nI n ∧ I 200 10 = nI n ∧ (∀ k, k < n → I 2 k = I 209 k ∧ -128 ≤ (I 2 k).toInt ∧ (I 2 k).toInt ≤ 127) ∧ I 1 4 = I 200 17
def W0 (I : Nat → Nat → Int32) (NH NY NE NR : Nat) : Prop := mc I NH NY NE NR ∧ mrg I NH NY NE NR ∧ clR I NH NY NE NR ∧ cdR I
theorem W0_sam (h : W0 I NH NY NE NR) (h1 : ∀ r, 18 ≤ r → r < 31 → I' r = I r) (h2 : sam 201 209 I I') : W0 I' NH NY NE NR := by
  obtain ⟨a, c, e, n, n8, q1, q2, q3⟩ := h
  have s2 : sam 201 207 I I' := fun r k1 k2 => h2 r k1 (by omega)
  refine ⟨mc_sam a s2, mrg_sam c s2, ?_, n, n8, ?_, ?_, ?_⟩
  · unfold clR clI tI gh gt ge gr gg mh mt mr at e ⊢
    simp only [Nat.reduceAdd] at e ⊢
    rw [h1 19 (by omega) (by omega), h1 21 (by omega) (by omega), h1 23 (by omega) (by omega), h1 25 (by omega) (by omega), h1 27 (by omega) (by omega), h1 20 (by omega) (by omega), h1 22 (by omega) (by omega), h1 24 (by omega) (by omega), h1 26 (by omega) (by omega), h1 28 (by omega) (by omega), s2 202 (by omega) (by omega), s2 203 (by omega) (by omega), s2 204 (by omega) (by omega), s2 205 (by omega) (by omega), s2 206 (by omega) (by omega)]
    exact e
  · rw [h1 29 (by omega) (by omega)]; exact q1
  · rw [h2 207 (by omega) (by omega)]; exact q2
  · rw [h1 30 (by omega) (by omega), h2 208 (by omega) (by omega)]; exact q3
theorem Rdr_sam (h : Rdr I) (h1 : sam 1 3 I I') (h2 : I' 209 = I 209) (h3 : I' 200 10 = I 200 10) (h4 : I' 200 17 = I 200 17) (h5 : zr I I') : Rdr I' := by
  unfold Rdr at h ⊢
  rw [h5.1, h5.2, h1 1 (by omega) (by omega), h1 2 (by omega) (by omega), h2, h3, h4]
  exact h
/-- what holds between two calls -/
def Inv (I : Nat → Nat → Int32) (J : Nat → Nat → Int64) : Prop := ∃ NH NY NE NR f u tp H b S, W0 I NH NY NE NR ∧ InvC I J NH NY NE f u tp H b S ∧ InvM I J f u H b S ∧ Rdr I
/-- only what no later call looks at has changed -/
def kp (I I' : Nat → Nat → Int32) : Prop := (∀ r, r < 176 → r ≠ 31 → (r < 42 ∨ 52 ≤ r) → I' r = I r) ∧ siI I' 42 ∧ bI I' ∧ tI I' 183 729 2 ∧ tP I' ∧ sam 201 210 I I' ∧ I' 219 = I 219 ∧ (∀ k, k ≠ 0 → k ≠ 27 → I' 200 k = I 200 k) ∧ zr I I'
def kpJ (J J' : Nat → Nat → Int64) : Prop := ∀ r, r ≠ 51 → r ≠ 216 → r ≠ 220 → J' r = J r
theorem InvC_kp (h : InvC I J NH NY NE f u tp H b S) (k : kp I I') (j : ∀ r, r < 200 → r ≠ 51 → J' r = J r) : InvC I' J' NH NY NE f u tp H b S := by
  obtain ⟨hr, ⟨_, a2, _, _, _, a6⟩, hH, hS⟩ := h
  obtain ⟨k1, k2, k3, k4, k5, k6, k7, k8, k9⟩ := k
  have s2 : sam 201 207 I I' := fun r q1 q2 => k6 r q1 (by omega)
  refine ⟨RS_sam hr (fun r q1 q2 => k1 r (by omega) (by omega) (by omega)) s2 (j _ (by omega) (by omega)), ⟨k2, fun m hm => ?_, k3, k4, k5, ?_⟩, HiC_sam hH (fun r q1 q2 => k1 r (by omega) (by omega) (by omega)) s2 (fun r q1 q2 => j r (by omega) (by omega)), SvC_sam hS (by rw [k1 52 (by omega) (by omega) (by omega)]) (fun r q1 q2 => k1 r (by omega) (by omega) (by omega)) s2 (fun r q1 q2 => j r (by omega) (by omega))⟩
  · have q := a2 m hm
    unfold siI tI at q ⊢
    rw [k1 (55 + 10 * m + 1) (by omega) (by omega) (by omega), k1 (55 + 10 * m + 3) (by omega) (by omega) (by omega), k1 (55 + 10 * m + 5) (by omega) (by omega) (by omega), k1 (55 + 10 * m + 7) (by omega) (by omega) (by omega)]
    exact q
  · unfold clI tI at a6 ⊢
    rw [k1 (4 + 1) (by omega) (by omega) (by omega), k1 (4 + 3) (by omega) (by omega) (by omega), k1 (4 + 5) (by omega) (by omega) (by omega), k1 (4 + 7) (by omega) (by omega) (by omega), k1 (4 + 9) (by omega) (by omega) (by omega)]
    exact a6
theorem Inv_kp (h : Inv I J) (k : kp I I') (j : kpJ J J') : Inv I' J' := by
  obtain ⟨NH, NY, NE, NR, f, u, tp, H, b, S, w, c, m, r⟩ := h
  refine ⟨NH, NY, NE, NR, f, u, tp, H, b, S, W0_sam w (fun r q1 q2 => k.1 r (by omega) (by omega) (by omega)) (fun r q1 q2 => k.2.2.2.2.2.1 r q1 (by omega)), InvC_kp c k (fun r q1 q2 => j r q2 (by omega) (by omega)), InvM_cl m ?_ k.2.2.2.2.2.2.1 (j _ (by omega) (by omega) (by omega)) (j _ (by omega) (by omega) (by omega)) (j _ (by omega) (by omega) (by omega)), Rdr_sam r (fun r q1 q2 => k.1 r (by omega) (by omega) (by omega)) (k.2.2.2.2.2.1 209 (by omega) (by omega)) ?_ ?_ k.2.2.2.2.2.2.2.2⟩
  · exact k.2.2.2.2.2.2.2.1 29 (by omega) (by omega)
  · exact k.2.2.2.2.2.2.2.1 10 (by omega) (by omega)
  · exact k.2.2.2.2.2.2.2.1 17 (by omega) (by omega)
theorem kp_refl (h : Cst I) : kp I I := ⟨fun _ _ _ _ => rfl, h.1, h.2.2.1, h.2.2.2.1, h.2.2.2.2.1, sam_refl, rfl, fun _ _ _ => rfl, rfl, rfl⟩
theorem kp_th (h : kp I I') (v : Int32) : kp I (th I' v) := by
  obtain ⟨k1, k2, k3, k4, k5, k6, k7, k8, k9⟩ := h
  refine ⟨fun r q1 q2 q3 => ?_, k2, k3, k4, k5, fun r q1 q2 => ?_, ?_, fun k q1 q2 => ?_, k9⟩
  · rw [th_off _ (by omega)]; exact k1 r q1 q2 q3
  · rw [th_off _ (by omega)]; exact k6 r q1 q2
  · rw [th_off _ (by omega)]; exact k7
  · rw [th_offk _ q1]; exact k8 k q1 q2
theorem kpJ_refl : kpJ J J := fun _ _ _ _ => rfl
theorem Inv_Cst (h : Inv I J) : Cst I := by
  obtain ⟨NH, NY, NE, NR, f, u, tp, H, b, S, w, c, m, r⟩ := h
  exact c.2.1
theorem Inv_Q (h : Inv I J) : ∃ NH NY NE NR, Q I J NH NY NE NR := by
  obtain ⟨NH, NY, NE, NR, f, u, tp, H, b, S, w, c, m, r⟩ := h
  refine ⟨NH, NY, NE, NR, w.1, w.2.1, w.2.2.1, ?_⟩
  rw [m.1]
  exact ⟨c.1.1, c.1.2.1, c.1.2.2.1⟩
/-- a call without exceptions: the same answer, and all holds again -/
def Cal0 {α : Type} (cl md : ab_Mm → Option (α × ab_Mm)) (I : Nat → Nat → Int32) (J : Nat → Nat → Int64) (x : Nat) : Prop := ∃ v I1 J1 I2 J2, cl (S0, I, J, x) = some (v, (S0, I1, J1, x)) ∧ md (S0, I1, J1, x) = some (v, (S0, I2, J2, x)) ∧ Inv I2 J2
theorem Ask_Cal {α : Type} {cl md : ab_Mm → Option (α × ab_Mm)} (h : Ask cl md I J x) (hi : Inv I J) : Cal0 cl md I J x := by
  obtain ⟨v, h1, h2⟩ := h
  exact ⟨v, I, J, _, J, h1, h2, Inv_kp hi (kp_th (kp_refl (Inv_Cst hi)) 0) kpJ_refl⟩
/-- a call that may throw: the same answer, or the same kind of throw, and all holds again -/
def Cal {α : Type} (cl : ab_Mm → Option ((α ⊕ Nat) × ab_Mm)) (md : ab_Mm → Option (α × ab_Mm)) (cd : Nat → Option Int32) (I : Nat → Nat → Int32) (J : Nat → Nat → Int64) (x : Nat) : Prop :=
  ∃ (res : α ⊕ Nat) (I1 : Nat → Nat → Int32) (J1 : Nat → Nat → Int64) (x1 : Nat), cl (S0, I, J, x) = some (res, (S0, I1, J1, x1)) ∧ x1 ≤ x + 1 ∧ ∀ J' : Nat → Nat → Int64, (∀ r, r ≠ 220 → J' r = J1 r) →
    ∃ v I2 J2, md (S0, I1, J', x1) = some (v, (S0, I2, J2, x1)) ∧ Inv I2 J2 ∧ J2 220 = J' 220 ∧ (match res with | .inl w => I2 200 0 = 0 ∧ v = w | .inr k => ∃ c, cd k = some c ∧ c ≠ 0 ∧ I2 200 0 = c)
theorem Qry_Cal {cl : ab_Mm → Option ((Int32 ⊕ Nat) × ab_Mm)} {md : ab_Mm → Option (Int32 × ab_Mm)} {cd : Nat → Option Int32} (h : Qry cl md I J x) (hi : Inv I J) (hc : cd 0 = some 1) : Cal cl md cd I J x := by
  obtain ⟨ok, v, h1, h2⟩ := h
  refine ⟨_, I, J, _, h1, by split <;> omega, fun J' hJ => ⟨_, _, J', h2 J' _ (hJ 201 (by omega)), Inv_kp hi (kp_th (kp_refl (Inv_Cst hi)) _) (fun r _ _ q => hJ r q), rfl, ?_⟩⟩
  cases ok with
  | true => exact ⟨th_at _, rfl⟩
  | false => exact ⟨1, hc, by decide, th_at _⟩
theorem QryL_Cal {cl : ab_Mm → Option ((Int64 ⊕ Nat) × ab_Mm)} {md : ab_Mm → Option (Int64 × ab_Mm)} {cd : Nat → Option Int32} (h : QryL cl md I J x) (hi : Inv I J) (hc : cd 0 = some 1) : Cal cl md cd I J x := by
  obtain ⟨ok, v, h1, h2⟩ := h
  refine ⟨_, I, J, _, h1, by split <;> omega, fun J' hJ => ⟨_, _, J', h2 J' _ (hJ 201 (by omega)), Inv_kp hi (kp_th (kp_refl (Inv_Cst hi)) _) (fun r _ _ q => hJ r q), rfl, ?_⟩⟩
  cases ok with
  | true => exact ⟨th_at _, rfl⟩
  | false => exact ⟨1, hc, by decide, th_at _⟩
/-- undo -/
theorem Inv_of (w : W0 I NH NY NE NR) (c : InvC I J NH NY NE f u tp H b S) (m : InvM I J g u H b S) (h : ag f g) (r : Rdr I) : Inv I J :=
  ⟨NH, NY, NE, NR, g, u, tp, H, b, S, w, ⟨RS_ag h w.1.2.2.1 c.1, c.2⟩, m, r⟩
theorem ag_refl (f : Nat → Int64) : ag f f := fun _ _ => rfl
theorem a_undo (hi : Inv I J) : Cal0 (dd_X11_undo 0) (dd_X12_undo 200) I J x := by
  obtain ⟨NH, NY, NE, NR, f, u, tp, H, b, S, w, c, m, r⟩ := id hi
  have h6 : NY ≤ 6 := w.1.2.2.1
  have hu : I 200 29 = nI u := m.2.1.1
  have u10 := c.2.2.1.1
  have hu' : th I 0 200 29 = nI u := hu
  unfold Cal0 dd_X11_undo dd_X12_undo
  by_cases h0 : u = 0
  · subst h0
    rw [c_R4, ob_s, c_R2, ob_s, rc_X4 okH, ob_s, c_takeBack0 c, ob_s]
    refine ⟨-1, I, J, th I 0, J, rfl, ?_, Inv_kp hi (kp_th (kp_refl (Inv_Cst hi)) 0) kpJ_refl⟩
    rw [m_P0, ob_s, m_F29, ob_s, hu', if_pos nI_0]
  · obtain ⟨I1, J1, e1, c1, o1, k1⟩ := @c_takeBack I J x NH NY NE u tp f H S b h6 c (by omega)
    have hz : I1 52 2 = nI (u - 1) := c1.2.2.1.2.2.1
    have hu1 : th I1 0 200 29 = nI u := by
      show I1 200 29 = _
      rw [o1 200 (by omega)]; exact hu
    rw [c_R4, ob_s, c_R2, ob_s, rc_X4 okH, ob_s, e1, ob_s, if_neg n10, c_R4, ob_s, fI_X4_2 okH, ob_s]
    refine ⟨I1 52 2, I1, J1, ab_u (th I1 0) 200 29 (nI (u - 1)), ab_cp J1 217 (116 * (u - 1)) 201 0 116, rfl, ?_, ?_⟩
    · rw [m_P0, ob_s, m_F29, ob_s, hu1, if_neg (nI_ne0 (by omega) (by omega)), ob_s, li_n 1, pk_sub (by omega), m_P29, ob_s, m_R30, ob_s, m_F29, ob_s, u_e, m_R1, ob_s, li_n 116, li_mul, li_0, m_copies sh_215 sh_199 (by omega) (by omega) (by omega) (by omega) (by omega), ob_s, m_F29, ob_s, u_e, hz]
    · have off : ∀ r, r ≠ 200 → ab_u (th I1 0) 200 29 (nI (u - 1)) r = I1 r := fun r hr => by rw [u_r hr, th_off _ hr]
      have offk : ∀ k, k ≠ 0 → k ≠ 29 → ab_u (th I1 0) 200 29 (nI (u - 1)) 200 k = I 200 k := fun k q1 q2 => by rw [u_k q2, th_offk _ q1, o1 200 (by omega)]
      have jo : ∀ r, r ≠ 201 → ab_cp J1 217 (116 * (u - 1)) 201 0 116 r = J1 r := fun r hr => cpJ_off hr
      have hc2 : InvC (ab_u (th I1 0) 200 29 (nI (u - 1))) (ab_cp J1 217 (116 * (u - 1)) 201 0 116) NH NY NE (H 0) (u - 1) ((tp + 9) % 10) (tl H) b S := InvC_md c1 (fun r q1 q2 => off r (by omega)) (fun r q1 q2 => off r (by omega)) (fun r q => jo r (by omega))
      have hw2 : W0 (ab_u (th I1 0) 200 29 (nI (u - 1))) NH NY NE NR := W0_sam w (fun r q1 q2 => by rw [off r (by omega), o1 r (by omega)]) (fun r q1 q2 => by rw [off r (by omega), o1 r (by omega)])
      refine Inv_of hw2 hc2 ⟨rfl, ⟨u_e, fun k hk i hi2 => ?_⟩, fun t ht => ⟨?_, fun hb i hi2 => ?_⟩⟩ (fun k hk => ?_) (Rdr_sam r (fun r q1 q2 => by rw [off r (by omega), o1 r (by omega)]) (by rw [off 209 (by omega), o1 209 (by omega)]) (offk 10 (by omega) (by omega)) (offk 17 (by omega) (by omega)) ⟨by rw [off 213 (by omega), o1 213 (by omega)], by rw [off 214 (by omega), o1 214 (by omega)]⟩)
      · rw [jo 217 (by omega), k1 217 (by omega)]
        have q := m.2.1.2 (k + 1) (by omega) i hi2
        rw [show u - 1 - 1 - k = u - 1 - (k + 1) by omega]
        exact q
      · rw [off 219 (by omega), o1 219 (by omega)]; exact (m.2.2 t ht).1
      · rw [jo 218 (by omega), k1 218 (by omega)]; exact (m.2.2 t ht).2 hb i hi2
      · have q := @cpJ_in J1 217 201 (116 * (u - 1)) 0 116 k hk
        rw [Nat.zero_add] at q
        rw [q, k1 217 (by omega)]
        exact m.2.1.2 0 (by omega) k hk
end UN
