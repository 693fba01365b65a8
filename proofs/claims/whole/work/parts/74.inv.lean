/-! ===== what holds between two calls ===== -/
theorem siP : ∀ k, k < 12 → siT (55 + 10 * k) := fun k hk => match k, hk with
  | 0, _ => ⟨rfl, ⟨rfl, rfl, by decide, by decide⟩, ⟨rfl, rfl, by decide, by decide⟩, ⟨rfl, rfl, by decide, by decide⟩, ⟨rfl, rfl, by decide, by decide⟩, rfl⟩
  | 1, _ => ⟨rfl, ⟨rfl, rfl, by decide, by decide⟩, ⟨rfl, rfl, by decide, by decide⟩, ⟨rfl, rfl, by decide, by decide⟩, ⟨rfl, rfl, by decide, by decide⟩, rfl⟩
  | 2, _ => ⟨rfl, ⟨rfl, rfl, by decide, by decide⟩, ⟨rfl, rfl, by decide, by decide⟩, ⟨rfl, rfl, by decide, by decide⟩, ⟨rfl, rfl, by decide, by decide⟩, rfl⟩
  | 3, _ => ⟨rfl, ⟨rfl, rfl, by decide, by decide⟩, ⟨rfl, rfl, by decide, by decide⟩, ⟨rfl, rfl, by decide, by decide⟩, ⟨rfl, rfl, by decide, by decide⟩, rfl⟩
  | 4, _ => ⟨rfl, ⟨rfl, rfl, by decide, by decide⟩, ⟨rfl, rfl, by decide, by decide⟩, ⟨rfl, rfl, by decide, by decide⟩, ⟨rfl, rfl, by decide, by decide⟩, rfl⟩
  | 5, _ => ⟨rfl, ⟨rfl, rfl, by decide, by decide⟩, ⟨rfl, rfl, by decide, by decide⟩, ⟨rfl, rfl, by decide, by decide⟩, ⟨rfl, rfl, by decide, by decide⟩, rfl⟩
  | 6, _ => ⟨rfl, ⟨rfl, rfl, by decide, by decide⟩, ⟨rfl, rfl, by decide, by decide⟩, ⟨rfl, rfl, by decide, by decide⟩, ⟨rfl, rfl, by decide, by decide⟩, rfl⟩
  | 7, _ => ⟨rfl, ⟨rfl, rfl, by decide, by decide⟩, ⟨rfl, rfl, by decide, by decide⟩, ⟨rfl, rfl, by decide, by decide⟩, ⟨rfl, rfl, by decide, by decide⟩, rfl⟩
  | 8, _ => ⟨rfl, ⟨rfl, rfl, by decide, by decide⟩, ⟨rfl, rfl, by decide, by decide⟩, ⟨rfl, rfl, by decide, by decide⟩, ⟨rfl, rfl, by decide, by decide⟩, rfl⟩
  | 9, _ => ⟨rfl, ⟨rfl, rfl, by decide, by decide⟩, ⟨rfl, rfl, by decide, by decide⟩, ⟨rfl, rfl, by decide, by decide⟩, ⟨rfl, rfl, by decide, by decide⟩, rfl⟩
  | 10, _ => ⟨rfl, ⟨rfl, rfl, by decide, by decide⟩, ⟨rfl, rfl, by decide, by decide⟩, ⟨rfl, rfl, by decide, by decide⟩, ⟨rfl, rfl, by decide, by decide⟩, rfl⟩
  | 11, _ => ⟨rfl, ⟨rfl, rfl, by decide, by decide⟩, ⟨rfl, rfl, by decide, by decide⟩, ⟨rfl, rfl, by decide, by decide⟩, ⟨rfl, rfl, by decide, by decide⟩, rfl⟩
section IV
variable {I I' : Nat → Nat → Int32} {J J' : Nat → Nat → Int64} {x : Nat} {NH NY NE NR s d u tp : Nat} {f g : Nat → Int64} {H S : Nat → Nat → Int64} {b : Nat → Bool}
theorem okH : ok_X4 52 := rfl
theorem h_len52 : ab_len (S0, I, J, x) 5 53 = some (nI 10) := op_len (S := S0) (r := 53) rfl
theorem h_len53 : ab_len (S0, I, J, x) 5 54 = some (nI 2) := op_len (S := S0) (r := 54) rfl
theorem h_ld52 : ∀ k, k < 10 → ab_ldR (S0, I, J, x) 53 (nI k) = some (55 + 10 * k) := fun k hk => match k, hk with
  | 0, _ => op_ldR (j := 0) (n := 10) (S := S0) rfl rfl (by decide) (by decide) rfl
  | 1, _ => op_ldR (j := 1) (n := 10) (S := S0) rfl rfl (by decide) (by decide) rfl
  | 2, _ => op_ldR (j := 2) (n := 10) (S := S0) rfl rfl (by decide) (by decide) rfl
  | 3, _ => op_ldR (j := 3) (n := 10) (S := S0) rfl rfl (by decide) (by decide) rfl
  | 4, _ => op_ldR (j := 4) (n := 10) (S := S0) rfl rfl (by decide) (by decide) rfl
  | 5, _ => op_ldR (j := 5) (n := 10) (S := S0) rfl rfl (by decide) (by decide) rfl
  | 6, _ => op_ldR (j := 6) (n := 10) (S := S0) rfl rfl (by decide) (by decide) rfl
  | 7, _ => op_ldR (j := 7) (n := 10) (S := S0) rfl rfl (by decide) (by decide) rfl
  | 8, _ => op_ldR (j := 8) (n := 10) (S := S0) rfl rfl (by decide) (by decide) rfl
  | 9, _ => op_ldR (j := 9) (n := 10) (S := S0) rfl rfl (by decide) (by decide) rfl
theorem h_ld53 : ∀ k, k < 2 → ab_ldR (S0, I, J, x) 54 (nI k) = some (155 + 10 * k) := fun k hk => match k, hk with
  | 0, _ => op_ldR (j := 0) (n := 2) (S := S0) rfl rfl (by decide) (by decide) rfl
  | 1, _ => op_ldR (j := 1) (n := 2) (S := S0) rfl rfl (by decide) (by decide) rfl
/-- the tables of the drainage and of the eviction -/
def tP (I : Nat → Nat → Int32) : Prop := tI I 198 8 2 ∧ tI I 193 12 4
/-- the sizes of tables that no call changes -/
def Cst (I : Nat → Nat → Int32) : Prop := siI I 42 ∧ (∀ k, k < 12 → siI I (55 + 10 * k)) ∧ bI I ∧ tI I 183 729 2 ∧ tP I ∧ clI I 4
/-- the changes that can be undone: class and model -/
def HiC (I : Nat → Nat → Int32) (J : Nat → Nat → Int64) (NH NY NE u tp : Nat) (H : Nat → Nat → Int64) : Prop := u ≤ 10 ∧ tp < 10 ∧ I 52 2 = nI u ∧ I 52 3 = nI tp ∧ ∀ k, k < u → RS I J NH NY NE (55 + 10 * ((tp + 9 - k) % 10)) (H k)
def HiM (I : Nat → Nat → Int32) (J : Nat → Nat → Int64) (u : Nat) (H : Nat → Nat → Int64) : Prop := I 200 29 = nI u ∧ ∀ k, k < u → ∀ i, i < 116 → J 217 (116 * (u - 1 - k) + i) = H k i
/-- the snapshots: class and model -/
def SvC (I : Nat → Nat → Int32) (J : Nat → Nat → Int64) (NH NY NE : Nat) (b : Nat → Bool) (S : Nat → Nat → Int64) : Prop := I 52 4 = nI (bs b 2) ∧ ∀ t, t < 2 → b t = true → RS I J NH NY NE (155 + 10 * t) (S t)
def SvM (I : Nat → Nat → Int32) (J : Nat → Nat → Int64) (b : Nat → Bool) (S : Nat → Nat → Int64) : Prop := ∀ t, t < 2 → I 219 t = (if b t then 1 else 0) ∧ (b t = true → ∀ i, i < 116 → J 218 (116 * t + i) = S t i)
def InvC (I : Nat → Nat → Int32) (J : Nat → Nat → Int64) (NH NY NE : Nat) (f : Nat → Int64) (u tp : Nat) (H : Nat → Nat → Int64) (b : Nat → Bool) (S : Nat → Nat → Int64) : Prop := RS I J NH NY NE 32 f ∧ Cst I ∧ HiC I J NH NY NE u tp H ∧ SvC I J NH NY NE b S
def InvM (I : Nat → Nat → Int32) (J : Nat → Nat → Int64) (f : Nat → Int64) (u : Nat) (H : Nat → Nat → Int64) (b : Nat → Bool) (S : Nat → Nat → Int64) : Prop := J 201 = f ∧ HiM I J u H ∧ SvM I J b S
def cns (f : Nat → Int64) (H : Nat → Nat → Int64) : Nat → Nat → Int64 := fun k => if k = 0 then f else H (k - 1)
/-- what other rows do not touch -/
theorem Cst_sam (h : Cst I) (h1 : sam 0 18 I I') (h2 : sam 42 200 I I') : Cst I' := by
  obtain ⟨a, a2, a3, a4, a5, a6⟩ := h
  refine ⟨?_, fun k hk => ?_, ?_, ?_, ?_, ?_⟩
  · unfold siI tI at a ⊢
    rw [h2 (42 + 1) (by omega) (by omega), h2 (42 + 3) (by omega) (by omega), h2 (42 + 5) (by omega) (by omega), h2 (42 + 7) (by omega) (by omega)]
    exact a
  · have q := a2 k hk
    unfold siI tI at q ⊢
    rw [h2 (55 + 10 * k + 1) (by omega) (by omega), h2 (55 + 10 * k + 3) (by omega) (by omega), h2 (55 + 10 * k + 5) (by omega) (by omega), h2 (55 + 10 * k + 7) (by omega) (by omega)]
    exact q
  · unfold bI tI at a3 ⊢
    rw [h2 176 (by omega) (by omega), h2 178 (by omega) (by omega)]
    exact a3
  · unfold tI at a4 ⊢
    rw [h2 183 (by omega) (by omega)]
    exact a4
  · unfold tP tI at a5 ⊢
    rw [h2 198 (by omega) (by omega), h2 193 (by omega) (by omega)]
    exact a5
  · unfold clI tI at a6 ⊢
    rw [h1 (4 + 1) (by omega) (by omega), h1 (4 + 3) (by omega) (by omega), h1 (4 + 5) (by omega) (by omega), h1 (4 + 7) (by omega) (by omega), h1 (4 + 9) (by omega) (by omega)]
    exact a6
theorem HiC_sam (h : HiC I J NH NY NE u tp H) (h1 : sam 52 155 I I') (h2 : sam 201 207 I I') (h3 : ∀ r, 55 ≤ r → r < 155 → J' r = J r) : HiC I' J' NH NY NE u tp H := by
  obtain ⟨a, a2, a3, a4, a5⟩ := h
  refine ⟨a, a2, ?_, ?_, fun k hk => ?_⟩
  · rw [h1 52 (by omega) (by omega)]; exact a3
  · rw [h1 52 (by omega) (by omega)]; exact a4
  · exact RS_sam (a5 k hk) (fun r q1 q2 => h1 r (by omega) (by omega)) h2 (h3 _ (by omega) (by omega))
theorem SvC_sam (h : SvC I J NH NY NE b S) (h0 : I' 52 4 = I 52 4) (h1 : sam 155 175 I I') (h2 : sam 201 207 I I') (h3 : ∀ r, 155 ≤ r → r < 175 → J' r = J r) : SvC I' J' NH NY NE b S := by
  obtain ⟨a, a2⟩ := h
  refine ⟨by rw [h0]; exact a, fun t ht hb => ?_⟩
  exact RS_sam (a2 t ht hb) (fun r q1 q2 => h1 r (by omega) (by omega)) h2 (h3 _ (by omega) (by omega))
/-- the model's calls leave the class's part -/
theorem InvC_md (h : InvC I J NH NY NE f u tp H b S) (h1 : sam 0 200 I I') (h2 : sam 201 207 I I') (h3 : ∀ r, r < 200 → J' r = J r) : InvC I' J' NH NY NE f u tp H b S := by
  obtain ⟨a, c, e, g⟩ := h
  exact ⟨RS_sam a (fun r q1 q2 => h1 r (by omega) (by omega)) h2 (h3 _ (by omega)), Cst_sam c (fun r q1 q2 => h1 r (by omega) (by omega)) (fun r q1 q2 => h1 r (by omega) (by omega)), HiC_sam e (fun r q1 q2 => h1 r (by omega) (by omega)) h2 (fun r _ _ => h3 r (by omega)), SvC_sam g (by rw [h1 52 (by omega) (by omega)]) (fun r q1 q2 => h1 r (by omega) (by omega)) h2 (fun r _ _ => h3 r (by omega))⟩
/-- the class's calls leave the model's part -/
theorem InvM_cl (h : InvM I J f u H b S) (h1 : I' 200 29 = I 200 29) (h2 : I' 219 = I 219) (h3 : J' 201 = J 201) (h4 : J' 217 = J 217) (h5 : J' 218 = J 218) : InvM I' J' f u H b S := by
  obtain ⟨a, ⟨c, c2⟩, e⟩ := h
  refine ⟨h3.trans a, ⟨h1.trans c, fun k hk i hi => ?_⟩, fun t ht => ⟨?_, fun hb i hi => ?_⟩⟩
  · rw [h4]; exact c2 k hk i hi
  · rw [h2]; exact (e t ht).1
  · rw [h5]; exact (e t ht).2 hb i hi
/-- a change is remembered -/
theorem c_remember (h6 : NY ≤ 6) (h : InvC I J NH NY NE f u tp H b S) : ∃ I' J', dd_X4_remember 52 32 (S0, I, J, x) = some ((), (S0, I', J', x)) ∧ InvC I' J' NH NY NE f (min (u + 1) 10) ((tp + 1) % 10) (cns f H) b S ∧ (∀ r, r < 52 ∨ 155 ≤ r → I' r = I r) ∧ (∀ r, r < 55 ∨ 155 ≤ r → J' r = J r) := by
  obtain ⟨hr, hC, ⟨u10, tp10, hu, ht, hh⟩, hS⟩ := h
  obtain ⟨I1, J1, e1, o1, q1, k1, r1⟩ := @RS_copy I J x NH NY NE 32 (55 + 10 * tp) f (siP tp (by omega)) si31 (by omega) (hC.2.1 tp (by omega)) (by omega) (by omega) h6 hr
  have t1 : I1 52 3 = nI tp := by rw [o1 52 (by omega)]; exact ht
  have u1 : I1 52 2 = nI u := by rw [o1 52 (by omega)]; exact hu
  unfold dd_X4_remember
  rw [fI_X4_3 okH, ob_s, ht, if_neg (li_pos (by omega)), ob_s, fR_X4_0 okH, ob_s]
  show ∃ I' J', ((ab_len (S0, I, J, x) 5 53).bind _) = _ ∧ _
  rw [h_len52, ob_s, if_neg (by rw [li_le (by omega) (by omega)]; omega), ob_s]
  show ∃ I' J', ((ab_ldR (S0, I, J, x) 53 (nI tp)).bind _) = _ ∧ _
  rw [h_ld52 tp tp10, ob_s, ob_s, ob_s]
  show ∃ I' J', ((ab_ldR (S0, I, J, x) 53 (nI tp)).bind _) = _ ∧ _
  rw [h_ld52 tp tp10, ob_s, rc_X8 (siP tp (by omega)).1, ob_s, e1, ob_s, fI_X4_3 okH, ob_s, fR_X4_0 okH, ob_s]
  show ∃ I' J', ((ab_len (S0, I1, J1, x) 5 53).bind _) = _ ∧ _
  rw [h_len52, ob_s, t1, nI_1]
  have key : ∀ v : Nat, v = (tp + 1) % 10 → ∃ I' J', bb_X4_remember_69 52 52 (nI v) (S0, I1, J1, x) = some ((), (S0, I', J', x)) ∧ InvC I' J' NH NY NE f (min (u + 1) 10) ((tp + 1) % 10) (cns f H) b S ∧ (∀ r, r < 52 ∨ 155 ≤ r → I' r = I r) ∧ (∀ r, r < 55 ∨ 155 ≤ r → J' r = J r) := by
    intro v hv
    have um : (if nI 10 < nI (u + 1) then nI 10 else nI (u + 1)) = nI (min (u + 1) 10) := by
      by_cases h : 10 < u + 1
      · rw [if_pos (by rw [li_lt (by omega) (by omega)]; exact h), Nat.min_eq_right (by omega)]
      · rw [if_neg (by rw [li_lt (by omega) (by omega)]; exact h), Nat.min_eq_left (by omega)]
    unfold bb_X4_remember_69
    rw [pI_X4_3 okH, ob_s, fI_X4_2 okH, ob_s, fR_X4_0 okH, ob_s]
    show ∃ I' J', ((ab_len (S0, ab_u I1 52 3 (nI v), J1, x) 5 53).bind _) = _ ∧ _
    rw [h_len52, ob_s, u_k (by omega), u1, nI_1, um, pI_X4_2 okH, ob_s]
    have z : ∀ r, r ≠ 52 → ab_u (ab_u I1 52 3 (nI v)) 52 2 (nI (min (u + 1) 10)) r = I1 r := fun r hr => by rw [u_r hr, u_r hr]
    have z2 : ab_u (ab_u I1 52 3 (nI v)) 52 2 (nI (min (u + 1) 10)) 52 2 = nI (min (u + 1) 10) := u_e
    have z3 : ab_u (ab_u I1 52 3 (nI v)) 52 2 (nI (min (u + 1) 10)) 52 3 = nI v := by rw [u_k (by omega), u_e]
    have z4 : ab_u (ab_u I1 52 3 (nI v)) 52 2 (nI (min (u + 1) 10)) 52 4 = I1 52 4 := by rw [u_k (by omega), u_k (by omega)]
    generalize ab_u (ab_u I1 52 3 (nI v)) 52 2 (nI (min (u + 1) 10)) = I2 at z z2 z3 z4 ⊢
    have off : ∀ r, r ≠ 52 → (r < 55 + 10 * tp ∨ 55 + 10 * tp + 10 ≤ r) → I2 r = I r := fun r h1 h2 => (z r h1).trans (o1 r h2)
    have s2 : sam 201 207 I I2 := fun r h1 h2 => off r (by omega) (by omega)
    refine ⟨I2, J1, rfl, ⟨RS_sam hr (fun r h1 h2 => off r (by omega) (by omega)) s2 (k1 _ (by omega)), ?_, ⟨by omega, by omega, z2, by rw [z3, hv], fun k hk => ?_⟩, SvC_sam hS (by rw [z4, o1 52 (by omega)]) (fun r h1 h2 => off r (by omega) (by omega)) s2 (fun r h1 h2 => k1 r (by omega))⟩, fun r h => off r (by omega) (by omega), fun r h => k1 r (by omega)⟩
    · obtain ⟨a, a2, a3, a4, a5, a6⟩ := hC
      refine ⟨?_, fun k hk => ?_, ?_, ?_, ?_, ?_⟩
      · unfold siI tI at a ⊢
        rw [off (42 + 1) (by omega) (by omega), off (42 + 3) (by omega) (by omega), off (42 + 5) (by omega) (by omega), off (42 + 7) (by omega) (by omega)]
        exact a
      · by_cases e : k = tp
        · rw [e]
          unfold siI tI at q1 ⊢
          rw [z (55 + 10 * tp + 1) (by omega), z (55 + 10 * tp + 3) (by omega), z (55 + 10 * tp + 5) (by omega), z (55 + 10 * tp + 7) (by omega)]
          exact q1
        · have q := a2 k hk
          unfold siI tI at q ⊢
          rw [off (55 + 10 * k + 1) (by omega) (by omega), off (55 + 10 * k + 3) (by omega) (by omega), off (55 + 10 * k + 5) (by omega) (by omega), off (55 + 10 * k + 7) (by omega) (by omega)]
          exact q
      · unfold bI tI at a3 ⊢
        rw [off 176 (by omega) (by omega), off 178 (by omega) (by omega)]
        exact a3
      · unfold tI at a4 ⊢
        rw [off 183 (by omega) (by omega)]
        exact a4
      · unfold tP tI at a5 ⊢
        rw [off 198 (by omega) (by omega), off 193 (by omega) (by omega)]
        exact a5
      · unfold clI tI at a6 ⊢
        rw [off (4 + 1) (by omega) (by omega), off (4 + 3) (by omega) (by omega), off (4 + 5) (by omega) (by omega), off (4 + 7) (by omega) (by omega), off (4 + 9) (by omega) (by omega)]
        exact a6
    · unfold cns
      by_cases e : k = 0
      · rw [if_pos e, e, show ((tp + 1) % 10 + 9 - 0) % 10 = tp by omega]
        exact RS_sam r1 (fun r h1 h2 => z r (by omega)) (fun r h1 h2 => z r (by omega)) rfl
      · have q := hh (k - 1) (by omega)
        rw [if_neg e, show ((tp + 1) % 10 + 9 - k) % 10 = (tp + 9 - (k - 1)) % 10 by omega]
        exact RS_sam q (fun r h1 h2 => off r (by omega) (by omega)) s2 (k1 _ (by omega))
  by_cases h : 10 ≤ tp + 1
  · rw [if_pos (by rw [li_le (by omega) (by omega)]; exact h)]
    exact key 0 (by omega)
  · rw [if_neg (by rw [li_le (by omega) (by omega)]; exact h), ob_s, nI_1]
    exact key (tp + 1) (by omega)
end IV
