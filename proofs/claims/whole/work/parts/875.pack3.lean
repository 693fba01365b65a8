/-! ===== the fewest hosts: rows of digits ===== -/
theorem okP : ok_X6 180 := rfl
theorem okO : ok_X5 186 := rfl
theorem okA : ok_X5 189 := rfl
theorem sh_180 : S0[181]? = some (1, 729, []) := rfl
theorem sh_181 : S0[182]? = some (1, 729, []) := rfl
theorem sh_184 : S0[185]? = some (1, 6, []) := rfl
theorem sh_186 : S0[187]? = some (1, 6, []) := rfl
theorem sh_187 : S0[188]? = some (1, 6, []) := rfl
theorem sh_189 : S0[190]? = some (1, 6, []) := rfl
theorem sh_190 : S0[191]? = some (1, 6, []) := rfl
theorem tbN : tb 183 729 2 := ⟨rfl, rfl, by decide, by decide⟩
section PO
variable {I I' I0 I1 I2 I3 I4 : Nat → Nat → Int32} {J J' J1 J2 J3 J4 : Nat → Nat → Int64} {x : Nat} {NH NY NE NR s d u tp u' tp' : Nat} {f g f' : Nat → Int64} {L st : Nat → Nat}
def odD (I : Nat → Nat → Int32) (o : Nat) (D : Nat → Nat) (c : Nat) : Prop := (∀ t, t < 6 → I (o + 1) t = nI (D t)) ∧ I o 2 = nI c
def odL (I : Nat → Nat → Int32) (o : Nat) (L : Nat → Nat) : Prop := ∀ t, t < 6 → I (o + 2) t = nI (L t)
def wst (st D : Nat → Nat) : Nat := sn (fun t => D t * st t) 6
theorem c_step {o : Nat} (hk : ok_X5 o) (h1 : S0[o + 1]? = some (1, 6, [])) (h2 : S0[o + 2]? = some (1, 6, [])) (ho : 186 ≤ o) (hL : odL I o L) (hS : ∀ t, t < 6 → I 185 t = nI (st t)) (hB : ∀ t, t < 6 → L t ≤ 12) {i : Nat} (hD : odD I o (dg L i) (wst st (dg L i))) :
    ∃ I', dd_X5_step o 185 (S0, I, J, x) = some (if qu L (i + 1) 6 = qu L i 6 then 1 else 0, (S0, I', J, x)) ∧ (∀ r, r ≠ o → r ≠ o + 1 → I' r = I r) ∧ (qu L (i + 1) 6 = qu L i 6 → odD I' o (dg L (i + 1)) (wst st (dg L (i + 1)))) := by
  have loop : ∀ (q n k : Nat) (I1 : Nat → Nat → Int32), k + q = 6 → q < n → (∀ j, j < k → dg L i j = L j) → (∀ r, r ≠ o → r ≠ o + 1 → I1 r = I r) → odD I1 o (fun t => if t < k then 0 else dg L i t) (sn (fun t => if t < k then 0 else dg L i t * st t) 6) →
      ∃ I', bb_X5_step_2 n o 185 (nI k) (S0, I1, J, x) = some (if qu L (i + 1) 6 = qu L i 6 then 1 else 0, (S0, I', J, x)) ∧ (∀ r, r ≠ o → r ≠ o + 1 → I' r = I r) ∧ (qu L (i + 1) 6 = qu L i 6 → odD I' o (dg L (i + 1)) (wst st (dg L (i + 1)))) := by
    intro q
    induction q with
    | zero =>
      intro n k I1 e1 e2 e3 e4 e5
      obtain ⟨n, rfl⟩ : ∃ z, n = z + 1 := ⟨n - 1, by omega⟩
      have ek : k = 6 := by omega
      subst ek
      have ⟨a, _⟩ := dg_nx e3
      refine ⟨I1, ?_, e4, fun z => by omega⟩
      rw [bb_X5_step_2, fR_X5_0 hk, ob_s, op_len h1, ob_s, if_pos (le_self _), if_neg (by omega)]
      rfl
    | succ q ih =>
      intro n k I1 e1 e2 e3 e4 e5
      obtain ⟨n, rfl⟩ : ∃ z, n = z + 1 := ⟨n - 1, by omega⟩
      have k6 : k < 6 := by omega
      have hLk := hB k k6
      have hdk := dg_le (L := L) (i := i) (t := k)
      have c1 : I1 (o + 1) k = nI (dg L i k) := by
        have : I1 (o + 1) k = nI (if k < k then 0 else dg L i k) := e5.1 k k6
        rw [if_neg (by omega)] at this
        exact this
      have e5a : ∀ t, t < 6 → I1 (o + 1) t = nI (if t < k then 0 else dg L i t) := e5.1
      have c2 : I1 (o + 2) k = nI (L k) := by rw [e4 (o + 2) (by omega) (by omega)]; exact hL k k6
      have c3 : I1 185 k = nI (st k) := by rw [e4 185 (by omega) (by omega)]; exact hS k k6
      rw [bb_X5_step_2, fR_X5_0 hk, ob_s, op_len h1, ob_s, if_neg (by rw [li_le (by omega) (by omega)]; omega), fR_X5_1 hk, ob_s, op_len h2, ob_s, if_neg (by rw [li_le (by omega) (by omega)]; omega), op_len sh_184, ob_s, if_neg (by rw [li_le (by omega) (by omega)]; omega), ob_s, op_ld h1 rfl k6 (by omega), ob_s, ob_s, op_ld h2 rfl k6 (by omega), ob_s, c1, c2]
      by_cases hc : L k ≤ dg L i k
      · have ed : dg L i k = L k := by omega
        rw [if_pos (by rw [li_le (by omega) (by omega)]; exact hc), fI_X5_2 hk, ob_s, ob_s, op_ld h1 rfl k6 (by omega), ob_s, op_ld sh_184 rfl k6 (by omega), ob_s, c1, c3, pI_X5_2 hk, ob_s, fR_X5_0 hk, ob_s, op_st _ h1 rfl k6 (by omega), ob_s, nI_1]
        refine ih n (k + 1) _ (by omega) (by omega) (fun j hj => ?_) (fun r a b => ?_) ⟨fun t ht => ?_, ?_⟩
        · by_cases e : j = k
          · rw [e]; exact ed
          · exact e3 j (by omega)
        · rw [u_r b, u_r a]; exact e4 r a b
        · by_cases e : t = k
          · show _ = nI (if t < k + 1 then 0 else dg L i t)
            rw [e, u_e, if_pos (by omega)]; rfl
          · show _ = nI (if t < k + 1 then 0 else dg L i t)
            rw [u_k e, u_r (by omega), e5a t ht]
            by_cases e' : t < k
            · rw [if_pos e', if_pos (by omega)]
            · rw [if_neg e', if_neg (by omega)]
        · rw [u_r (by omega), u_e, e5.2, li_mul]
          have z := sn_chg (g := fun t => if t < k then 0 else dg L i t * st t) (g' := fun t => if t < k + 1 then 0 else dg L i t * st t) (j := k) (n := 6) k6 (fun t _ hn => by
            show (if t < k + 1 then 0 else dg L i t * st t) = if t < k then 0 else dg L i t * st t
            by_cases e' : t < k
            · rw [if_pos e', if_pos (by omega)]
            · rw [if_neg e', if_neg (by omega)])
          simp only [Nat.lt_irrefl, if_false, Nat.lt_succ_self, if_true, Nat.lt_add_one] at z
          rw [pk_sub (by omega)]
          exact congrArg nI (by omega)
      · have hs := dg_st (L := L) (i := i) (k := k) e3 (by omega)
        have hn := dg_nx (L := L) (i := i) (k := k) e3
        have eq6 : qu L (i + 1) 6 = qu L i 6 := (hs.2 6 k6).1
        rw [if_neg (by rw [li_le (by omega) (by omega)]; exact hc), ob_s, op_ld h1 rfl k6 (by omega), ob_s, c1, op_st _ h1 rfl k6 (by omega), ob_s, fI_X5_2 hk, ob_s, op_ld sh_184 rfl k6 (by omega), ob_s, u_r (by omega), u_r (by omega), c3, pI_X5_2 hk, ob_s, if_pos eq6]
        refine ⟨_, rfl, fun r a b => by rw [u_r a, u_r b]; exact e4 r a b, fun _ => ⟨fun t ht => ?_, ?_⟩⟩
        · rw [u_r (by omega)]
          by_cases e : t = k
          · rw [e, u_e, hs.1, nI_1]
          · rw [u_k e, e5a t ht]
            by_cases e' : t < k
            · rw [if_pos e', hn.2 t e']
            · rw [if_neg e', (hs.2 t (by omega)).2]
        · rw [u_e, e5.2, li_add]
          have z := sn_chg (g := fun t => if t < k then 0 else dg L i t * st t) (g' := fun t => dg L (i + 1) t * st t) (j := k) (n := 6) k6 (fun t _ hne => by
            show dg L (i + 1) t * st t = if t < k then 0 else dg L i t * st t
            by_cases e' : t < k
            · rw [if_pos e', hn.2 t e', Nat.zero_mul]
            · rw [if_neg e', (hs.2 t (by omega)).2])
          simp only [Nat.lt_irrefl, if_false, hs.1, Nat.add_mul, Nat.one_mul] at z
          unfold wst
          exact congrArg nI (by omega)
  refine loop 6 ab_fu 0 I (by omega) (ab_fu_big (by omega)) (fun j hj => by omega) (fun _ _ _ => rfl) ⟨fun t ht => ?_, ?_⟩
  · show _ = nI (if t < 0 then 0 else dg L i t)
    rw [if_neg (by omega)]; exact hD.1 t ht
  · rw [hD.2]
    unfold wst
    exact congrArg nI (sn_congr (fun t _ => (if_neg (by omega)).symm))
theorem c_restart {o : Nat} (hk : ok_X5 o) (h1 : S0[o + 1]? = some (1, 6, [])) (L st : Nat → Nat) : ∃ I', dd_X5_restart o (S0, I, J, x) = some ((), (S0, I', J, x)) ∧ (∀ r, r ≠ o → r ≠ o + 1 → I' r = I r) ∧ odD I' o (dg L 0) (wst st (dg L 0)) := by
  have d0 : ∀ t, qu L 0 t = 0 := by
    intro t
    induction t with
    | zero => rfl
    | succ t ih => rw [qu, ih, Nat.zero_div]
  have e0 : ∀ t, dg L 0 t = 0 := fun t => by unfold dg; rw [d0, Nat.zero_mod]
  unfold dd_X5_restart
  rw [fR_X5_0 hk, ob_s, fi_fill h1 (by omega), ob_s, pI_X5_2 hk, ob_s]
  refine ⟨_, rfl, fun r a b => ?_, fun t ht => ?_, ?_⟩
  · rw [u_r a, ro_off _ _ b]
  · rw [u_r (by omega), ro_at, if_pos ht, e0]; rfl
  · rw [u_e]
    have : wst st (dg L 0) = 0 := by
      unfold wst
      rw [sn_congr (g' := fun _ => 0) (fun t _ => by rw [e0, Nat.zero_mul]), sn_0]
    rw [this]; rfl
/-- how many run of each type -/
def Ln (f : Nat → Int64) (t : Nat) : Nat := cn (fun i => rn f i && decide (ty f i = t)) 12
theorem Ln_le (t : Nat) : Ln f t ≤ 12 := cn_le _ _
def p_R0 := 0
theorem p_f0 : ab_fR (S0, I, J, x) 6 180 0 = some 181 := fR_X6_0 okP
theorem p_f1 : ab_fR (S0, I, J, x) 6 180 1 = some 182 := fR_X6_1 okP
theorem p_f2 : ab_fR (S0, I, J, x) 6 180 2 = some 183 := fR_X6_2 okP
theorem p_f3 : ab_fR (S0, I, J, x) 6 180 3 = some 185 := fR_X6_3 okP
theorem p_f4 : ab_fR (S0, I, J, x) 6 180 4 = some 186 := fR_X6_4 okP
theorem p_f5 : ab_fR (S0, I, J, x) 6 180 5 = some 189 := fR_X6_5 okP
theorem o_f0 : ab_fR (S0, I, J, x) 5 186 0 = some 187 := fR_X5_0 okO
theorem o_f1 : ab_fR (S0, I, J, x) 5 186 1 = some 188 := fR_X5_1 okO
theorem a_f0 : ab_fR (S0, I, J, x) 5 189 0 = some 190 := fR_X5_0 okA
theorem a_f1 : ab_fR (S0, I, J, x) 5 189 1 = some 191 := fR_X5_1 okA
theorem o_c : ab_fI (S0, I, J, x) 5 186 2 = some (I 186 2) := fI_X5_2 okO
theorem a_c : ab_fI (S0, I, J, x) 5 189 2 = some (I 189 2) := fI_X5_2 okA
theorem p_rc : ab_rc (S0, I, J, x) 6 180 = some () := rc_X6 okP
theorem o_rc : ab_rc (S0, I, J, x) 5 186 = some () := rc_X5 okO
theorem a_rc : ab_rc (S0, I, J, x) 5 189 = some () := rc_X5 okA
theorem t_182 : ab_rc (S0, I, J, x) 10 183 = some () := op_rc tbN.1
theorem c_count (h6 : NY ≤ 6) (hw : wff I0 NH NY NE f) (hr : sr I0 NY 32 f) : ∃ I', dd_X6_countTypes 180 32 (S0, I0, J, x) = some (nI (cdv (Ln f) (Ln f) 6), (S0, I', J, x)) ∧ (∀ r, r ≠ 185 → r ≠ 188 → I' r = I0 r) ∧ (∀ t, t < 6 → I' 185 t = nI (std (Ln f) t) ∧ I' 188 t = nI (Ln f t)) := by
  have loop : ∀ (q n k : Nat) (I1 : Nat → Nat → Int32), k + q = 6 → q < n → (∀ r, r ≠ 185 → r ≠ 188 → I1 r = I0 r) → (∀ t, t < k → I1 185 t = nI (std (Ln f) t) ∧ I1 188 t = nI (Ln f t)) →
      ∃ I', bb_X6_countTypes_7 n 180 32 (nI (cdv (Ln f) (Ln f) k)) (nI (std (Ln f) k)) (nI k) (S0, I1, J, x) = some (nI (cdv (Ln f) (Ln f) 6), (S0, I', J, x)) ∧ (∀ r, r ≠ 185 → r ≠ 188 → I' r = I0 r) ∧ (∀ t, t < 6 → I' 185 t = nI (std (Ln f) t) ∧ I' 188 t = nI (Ln f t)) := by
    intro q
    induction q with
    | zero =>
      intro n k I1 e1 e2 e4 e5
      obtain ⟨n, rfl⟩ : ∃ z, n = z + 1 := ⟨n - 1, by omega⟩
      have ek : k = 6 := by omega
      subst ek
      refine ⟨I1, ?_, e4, e5⟩
      rw [bb_X6_countTypes_7, p_f3, ob_s, op_len sh_184, ob_s, if_pos (le_self _)]
      rfl
    | succ q ih =>
      intro n k I1 e1 e2 e4 e5
      obtain ⟨n, rfl⟩ : ∃ z, n = z + 1 := ⟨n - 1, by omega⟩
      have k6 : k < 6 := by omega
      have hrI : sr I1 NY 32 f := sr_sam hr (fun r a e => e4 r (by omega) (by omega)) (e4 204 (by omega) (by omega))
      have em : manyS I1 32 (nI k) = nI (Ln f k) := sr_many hw.2.2.1 hrI h6 k6
      rw [bb_X6_countTypes_7, p_f3, ob_s, op_len sh_184, ob_s, if_neg (by rw [li_le (by omega) (by omega)]; omega), p_f4, ob_s, o_f1, ob_s, op_len sh_187, ob_s, if_neg (by rw [li_le (by omega) (by omega)]; omega), e_rc, ob_s, si_many si31 hrI.1, ob_s, em, p_f4, ob_s, o_f1, ob_s, op_st _ sh_187 rfl k6 (by omega), ob_s, p_f3, ob_s, op_st _ sh_184 rfl k6 (by omega), ob_s, li_mul, li_add, nI_1, li_mul, nI_1]
      refine ih n (k + 1) _ (by omega) (by omega) (fun r a b => by rw [u_r a, u_r b]; exact e4 r a b) (fun t ht => ?_)
      by_cases e : t = k
      · rw [e, u_e, u_r (by omega), u_e]; exact ⟨rfl, rfl⟩
      · rw [u_k e, u_r (by omega), u_r (by omega), u_k e]; exact e5 t (by omega)
  exact loop 6 ab_fu 0 I0 (by omega) (ab_fu_big (by omega)) (fun _ _ _ => rfl) (fun t ht => by omega)
/-- what the packing knows before it begins -/
def pkS (I0 I : Nat → Nat → Int32) (L : Nat → Nat) : Prop := (∀ r, r < 181 ∨ 192 ≤ r → I r = I0 r) ∧ tI I 183 729 2 ∧ ∀ t, t < 6 → I 185 t = nI (std L t) ∧ I 188 t = nI (L t)
def pkW (I0 I : Nat → Nat → Int32) (L : Nat → Nat) (m : Nat) : Prop := ∀ c, c < m → ∀ w, w < 2 → I 184 (c * 2 + w) = nI (wgt (dg L c) (fun t => tN I0 t w))
theorem wst_std {i : Nat} (h : i < std L 6) : wst (std L) (dg L i) = i := by
  have q := qu_sum L i 6
  rw [qu_of h, Nat.zero_mul, Nat.add_zero] at q
  exact q
/-- the digits of types that are not there are 0 -/
def L0 (L : Nat → Nat) (NY : Nat) : Prop := ∀ t, NY ≤ t → t < 6 → L t = 0
theorem Ln_0 (hw : wff I NH NY NE f) : L0 (Ln f) NY := fun t h1 h2 => by
  unfold Ln
  rw [cn_congr (q := fun _ => false) (fun i hi => ?_)]
  · rfl
  · cases hrn : rn f i with
    | false => rfl
    | true =>
      have := ty_lt hw.2.2.1 hi hrn
      have : ¬ ty f i = t := by omega
      simp [this]
theorem c_needs (hg : mrg I0 NH NY NE NR) (hl : clR I0 NH NY NE NR) (h6 : NY ≤ 6) (hz : L0 L NY) (h12 : ∀ t, t < 6 → L t ≤ 12) (h729 : std L 6 ≤ 729) (hp : pkS I0 I L) : ∃ I', dd_X6_addNeeds 180 18 (S0, I, J, x) = some ((), (S0, I', J, x)) ∧ pkS I0 I' L ∧ pkW I0 I' L (std L 6) := by
  -- the sums of one row
  have row : ∀ (r11 : Nat → Nat → Int32 → Int32 → ab_Mm → Option (Unit × ab_Mm)) (I1 : Nat → Nat → Int32) (l3 : Int32) (i : Nat), pkS I0 I1 L → odD I1 186 (dg L i) i → ∀ (q n k : Nat), k + q = 6 → q < n → bb_X6_addNeeds_31 r11 n 180 18 l3 (nI (sn (fun t => dg L i t * tN I0 t 0) k)) (nI (sn (fun t => dg L i t * tN I0 t 1) k)) (nI k) (S0, I1, J, x) =
      (dd_X10_set 183 (nI i) 0 (nI (wgt (dg L i) (fun t => tN I0 t 0))) (S0, I1, J, x)).bind fun q7 => (ab_fR q7.2 6 180 2).bind fun v8 => (ab_fR q7.2 6 180 4).bind fun v9 => (ab_fI q7.2 5 v9 2).bind fun v10 => (ab_rc q7.2 10 v8).bind fun _ => (dd_X10_set v8 v10 1 (nI (wgt (dg L i) (fun t => tN I0 t 1))) q7.2).bind fun q11 => (ab_fR q11.2 6 180 4).bind fun v12 => (ab_fR q11.2 6 180 3).bind fun v13 => (ab_rc q11.2 5 v12).bind fun _ => (dd_X5_step v12 v13 q11.2).bind fun q14 => r11 180 18 q14.1 (l3 + (1 : Int32)) q14.2 := by
    intro r11 I1 l3 i hp1 hd1 q
    induction q with
    | zero =>
      intro n k e1 e2
      obtain ⟨n, rfl⟩ : ∃ z, n = z + 1 := ⟨n - 1, by omega⟩
      have ek : k = 6 := by omega
      subst ek
      have hI : tI I1 183 729 2 := hp1.2.1
      rw [bb_X6_addNeeds_31, p_f4, ob_s, o_f0, ob_s, op_len sh_186, ob_s, if_pos (le_self _), p_f2, ob_s, ob_s, o_c, ob_s, t_182, ob_s, hd1.2]
      show ((dd_X10_set 183 (nI i) 0 (nI (wgt (dg L i) (fun t => tN I0 t 0))) (S0, I1, J, x)).bind _) = _
      rfl
    | succ q ih =>
      intro n k e1 e2
      obtain ⟨n, rfl⟩ : ∃ z, n = z + 1 := ⟨n - 1, by omega⟩
      have k6 : k < 6 := by omega
      have hlI : clR I1 NH NY NE NR := clR_sam hl (fun r a e => hp1.1 r (by omega)) (fun r a e => hp1.1 r (by omega))
      have term : ∀ w, w < 2 → nI (dg L i k) * gt I1 18 k w = nI (dg L i k * tN I0 k w) := fun w hw => by
        by_cases e : k < NY
        · rw [hlI.2.2.2.2.1 k e w (by omega)]
          unfold mt
          rw [hp1.1 204 (by omega)]
          have := (tN_is hg e hw).1
          unfold mt at this
          rw [this, li_mul]
        · have : dg L i k = 0 := by
            have h1 := dg_le (L := L) (i := i) (t := k)
            have h2 := hz k (by omega) k6
            omega
          rw [this, Nat.zero_mul]
          show (0 : Int32) * _ = 0
          rw [Int32.zero_mul]
      have g0 : dd_X10_get 21 (nI k) 0 (S0, I1, J, x) = some (gt I1 18 k 0, (S0, I1, J, x)) := cl_gett cl17 hlI.1 rfl li_0 k6 (by omega)
      have g1 : dd_X10_get 21 (nI k) 1 (S0, I1, J, x) = some (gt I1 18 k 1, (S0, I1, J, x)) := cl_gett cl17 hlI.1 rfl (li_n 1) k6 (by omega)
      have dk : I1 187 k = nI (dg L i k) := hd1.1 k k6
      rw [bb_X6_addNeeds_31, p_f4, ob_s, o_f0, ob_s, op_len sh_186, ob_s, if_neg (by rw [li_le (by omega) (by omega)]; omega), ob_s, o_f0, ob_s, op_ld sh_186 rfl k6 (by omega), ob_s, d_R1, ob_s, t_20, ob_s, g0, ob_s, p_f4, ob_s, o_f0, ob_s, op_ld sh_186 rfl k6 (by omega), ob_s, d_R1, ob_s, t_20, ob_s, g1, ob_s, dk, term 0 (by omega), term 1 (by omega), li_add, li_add, nI_1]
      exact ih n (k + 1) (by omega) (by omega)
  have loop : ∀ (q n i : Nat) (I1 : Nat → Nat → Int32), i + q + 1 = std L 6 → q + 1 < n → pkS I0 I1 L → pkW I0 I1 L i → odD I1 186 (dg L i) i →
      ∃ I', bb_X6_addNeeds_11 n 180 18 (1 : Int32) (nI i) (S0, I1, J, x) = some ((), (S0, I', J, x)) ∧ pkS I0 I' L ∧ pkW I0 I' L (std L 6) := by
    intro q
    induction q with
    | zero =>
      intro n i I1 e1 e2 hp1 hw1 hd1
      obtain ⟨n, rfl⟩ : ∃ z, n = z + 2 := ⟨n - 2, by omega⟩
      have i729 : i < 729 := by omega
      have s1 : dd_X10_set 183 (nI i) 0 (nI (wgt (dg L i) (fun t => tN I0 t 0))) (S0, I1, J, x) = _ := tb_set _ tbN hp1.2.1 rfl li_0 i729 (by omega)
      have hI2 : tI (ab_u I1 (183 + 1) (i * 2 + 0) (nI (wgt (dg L i) (fun t => tN I0 t 0)))) 183 729 2 := by
        have q := hp1.2.1
        unfold tI at q ⊢
        rw [u_r (by omega)]; exact q
      have s2 := tb_set (J := J) (x := x) (nI (wgt (dg L i) (fun t => tN I0 t 1))) tbN hI2 (row := nI i) (col := 1) rfl (li_n 1) i729 (by omega)
      have off : ∀ r, r ≠ 184 → ab_u (ab_u I1 (183 + 1) (i * 2 + 0) (nI (wgt (dg L i) (fun t => tN I0 t 0)))) (183 + 1) (i * 2 + 1) (nI (wgt (dg L i) (fun t => tN I0 t 1))) r = I1 r := fun r hr => by rw [u_r hr, u_r hr]
      have at2 : pkW I0 (ab_u (ab_u I1 (183 + 1) (i * 2 + 0) (nI (wgt (dg L i) (fun t => tN I0 t 0)))) (183 + 1) (i * 2 + 1) (nI (wgt (dg L i) (fun t => tN I0 t 1)))) L (i + 1) := fun c hc w hw2 => by
        by_cases e : c = i
        · rw [e]
          rcases (show w = 0 ∨ w = 1 by omega) with z | z
          · rw [z, u_k (by omega)]; exact u_e
          · rw [z]; exact u_e
        · rw [u_k (by omega), u_k (by omega)]
          exact hw1 c (by omega) w hw2
      have r1 := row (bb_X6_addNeeds_11 (n + 1)) I1 (nI i) i hp1 hd1 6 ab_fu 0 (by omega) (ab_fu_big (by omega))
      rw [s1, ob_s, p_f2, ob_s, p_f4, ob_s, o_c, ob_s, t_182, ob_s, u_r (by omega), hd1.2, s2, ob_s, p_f4, ob_s, p_f3, ob_s, o_rc, ob_s] at r1
      generalize ab_u (ab_u I1 (183 + 1) (i * 2 + 0) (nI (wgt (dg L i) (fun t => tN I0 t 0)))) (183 + 1) (i * 2 + 1) (nI (wgt (dg L i) (fun t => tN I0 t 1))) = I2 at off at2 r1
      have hd2 : odD I2 186 (dg L i) (wst (std L) (dg L i)) := by
        rw [wst_std (by omega)]
        exact ⟨fun t ht => by rw [off (186 + 1) (by omega)]; exact hd1.1 t ht, by rw [off 186 (by omega)]; exact hd1.2⟩
      obtain ⟨I3, z1, z2, z3⟩ := @c_step I2 J x L (std L) 186 okO sh_186 sh_187 (by omega) (fun t ht => by rw [off (186 + 2) (by omega)]; exact (hp1.2.2 t ht).2) (fun t ht => by rw [off 185 (by omega)]; exact (hp1.2.2 t ht).1) h12 i hd2
      have hq1 : qu L i 6 = 0 := qu_of (by omega)
      have hq2 : qu L (i + 1) 6 ≠ 0 := fun z => by have := qu_lt z; omega
      rw [z1, ob_s, if_neg (by omega), bb_X6_addNeeds_11] at r1
      refine ⟨I3, ?_, ⟨fun r hr => by rw [z2 r (by omega) (by omega), off r (by omega)]; exact hp1.1 r hr, ?_, fun t ht => ?_⟩, fun c hc w hw2 => ?_⟩
      · rw [bb_X6_addNeeds_11, if_neg (by rw [li_n 729, li_le (by omega) (by omega)]; omega), if_neg n10]
        refine r1.trans ?_
        rw [if_pos rfl]
        split <;> rfl
      · have q := hp1.2.1
        unfold tI at q ⊢
        rw [z2 183 (by omega) (by omega), off 183 (by omega)]; exact q
      · rw [z2 185 (by omega) (by omega), off 185 (by omega), z2 188 (by omega) (by omega), off 188 (by omega)]; exact hp1.2.2 t ht
      · rw [z2 184 (by omega) (by omega)]; exact at2 c (by omega) w hw2
    | succ q ih =>
      intro n i I1 e1 e2 hp1 hw1 hd1
      obtain ⟨n, rfl⟩ : ∃ z, n = z + 1 := ⟨n - 1, by omega⟩
      have i729 : i < 729 := by omega
      have s1 : dd_X10_set 183 (nI i) 0 (nI (wgt (dg L i) (fun t => tN I0 t 0))) (S0, I1, J, x) = _ := tb_set _ tbN hp1.2.1 rfl li_0 i729 (by omega)
      have hI2 : tI (ab_u I1 (183 + 1) (i * 2 + 0) (nI (wgt (dg L i) (fun t => tN I0 t 0)))) 183 729 2 := by
        have q := hp1.2.1
        unfold tI at q ⊢
        rw [u_r (by omega)]; exact q
      have s2 := tb_set (J := J) (x := x) (nI (wgt (dg L i) (fun t => tN I0 t 1))) tbN hI2 (row := nI i) (col := 1) rfl (li_n 1) i729 (by omega)
      have off : ∀ r, r ≠ 184 → ab_u (ab_u I1 (183 + 1) (i * 2 + 0) (nI (wgt (dg L i) (fun t => tN I0 t 0)))) (183 + 1) (i * 2 + 1) (nI (wgt (dg L i) (fun t => tN I0 t 1))) r = I1 r := fun r hr => by rw [u_r hr, u_r hr]
      have at2 : pkW I0 (ab_u (ab_u I1 (183 + 1) (i * 2 + 0) (nI (wgt (dg L i) (fun t => tN I0 t 0)))) (183 + 1) (i * 2 + 1) (nI (wgt (dg L i) (fun t => tN I0 t 1)))) L (i + 1) := fun c hc w hw2 => by
        by_cases e : c = i
        · rw [e]
          rcases (show w = 0 ∨ w = 1 by omega) with z | z
          · rw [z, u_k (by omega)]; exact u_e
          · rw [z]; exact u_e
        · rw [u_k (by omega), u_k (by omega)]
          exact hw1 c (by omega) w hw2
      have r1 := row (bb_X6_addNeeds_11 n) I1 (nI i) i hp1 hd1 6 ab_fu 0 (by omega) (ab_fu_big (by omega))
      rw [s1, ob_s, p_f2, ob_s, p_f4, ob_s, o_c, ob_s, t_182, ob_s, u_r (by omega), hd1.2, s2, ob_s, p_f4, ob_s, p_f3, ob_s, o_rc, ob_s] at r1
      generalize ab_u (ab_u I1 (183 + 1) (i * 2 + 0) (nI (wgt (dg L i) (fun t => tN I0 t 0)))) (183 + 1) (i * 2 + 1) (nI (wgt (dg L i) (fun t => tN I0 t 1))) = I2 at off at2 r1
      have hd2 : odD I2 186 (dg L i) (wst (std L) (dg L i)) := by
        rw [wst_std (by omega)]
        exact ⟨fun t ht => by rw [off (186 + 1) (by omega)]; exact hd1.1 t ht, by rw [off 186 (by omega)]; exact hd1.2⟩
      obtain ⟨I3, z1, z2, z3⟩ := @c_step I2 J x L (std L) 186 okO sh_186 sh_187 (by omega) (fun t ht => by rw [off (186 + 2) (by omega)]; exact (hp1.2.2 t ht).2) (fun t ht => by rw [off 185 (by omega)]; exact (hp1.2.2 t ht).1) h12 i hd2
      have hq1 : qu L i 6 = 0 := qu_of (by omega)
      have hq2 : qu L (i + 1) 6 = 0 := qu_of (by omega)
      have hqe : qu L (i + 1) 6 = qu L i 6 := by omega
      have hd3 := z3 hqe
      rw [wst_std (by omega)] at hd3
      rw [z1, ob_s, if_pos hqe, nI_1] at r1
      obtain ⟨I', y1, y2, y3⟩ := ih n (i + 1) I3 (by omega) (by omega) ⟨fun r hr => by rw [z2 r (by omega) (by omega), off r (by omega)]; exact hp1.1 r hr, by
        have q := hp1.2.1
        unfold tI at q ⊢
        rw [z2 183 (by omega) (by omega), off 183 (by omega)]; exact q, fun t ht => by
        rw [z2 185 (by omega) (by omega), off 185 (by omega), z2 188 (by omega) (by omega), off 188 (by omega)]; exact hp1.2.2 t ht⟩ (fun c hc w hw2 => by
        rw [z2 184 (by omega) (by omega)]; exact at2 c hc w hw2) hd3
      refine ⟨I', ?_, y2, y3⟩
      rw [bb_X6_addNeeds_11, if_neg (by rw [li_n 729, li_le (by omega) (by omega)]; omega), if_neg n10]
      exact r1.trans y1
  obtain ⟨I1, r1, r2, r3⟩ := @c_restart I J x 186 okO sh_186 L (std L)
  have h0 := std_pos L 6
  rw [wst_std (by omega)] at r3
  obtain ⟨I', y1, y2, y3⟩ := loop (std L 6 - 1) ab_fu 0 I1 (by omega) (ab_fu_big (by omega)) ⟨fun r hr => by rw [r2 r (by omega) (by omega)]; exact hp.1 r hr, by
    have q := hp.2.1
    unfold tI at q ⊢
    rw [r2 183 (by omega) (by omega)]; exact q, fun t ht => by rw [r2 185 (by omega) (by omega), r2 188 (by omega) (by omega)]; exact hp.2.2 t ht⟩ (fun c hc => by omega) r3
  refine ⟨I', ?_, y2, y3⟩
  unfold dd_X6_addNeeds
  rw [p_f4, ob_s, o_rc, ob_s, r1, ob_s]
  exact y1
end PO
