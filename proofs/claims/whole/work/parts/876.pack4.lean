/-! ===== the fewest hosts: one host more ===== -/
section PH
variable {I I' I0 I1 I2 I3 I4 : Nat → Nat → Int32} {J J' J1 J2 J3 J4 : Nat → Nat → Int64} {x : Nat} {NH NY NE NR s d u tp u' tp' n : Nat} {f g f' : Nat → Int64} {L st ta : Nat → Nat}
def pkF (I : Nat → Nat → Int32) (r : Nat) (F : Nat → Nat) : Prop := ∀ c, c < 729 → I r c = nI (F c)
/-- the packing's rows while the hosts are looked at -/
def pkA (I0 I : Nat → Nat → Int32) (L : Nat → Nat) (B F : Nat → Nat) : Prop := pkS I0 I L ∧ pkW I0 I L (std L 6) ∧ pkF I 181 F ∧ pkF I 182 B
theorem pkA_sam {B F : Nat → Nat} (h : pkA I0 I L B F) (o : ∀ r, r < 186 ∨ r = 188 ∨ 192 ≤ r → I' r = I r) : pkA I0 I' L B F := by
  obtain ⟨⟨a1, a2, a3⟩, c, d, e⟩ := h
  refine ⟨⟨fun r hr => (o r (by omega)).trans (a1 r hr), ?_, fun t ht => ?_⟩, fun k hk w hw => ?_, fun k hk => ?_, fun k hk => ?_⟩
  · unfold tI at a2 ⊢
    rw [o 183 (by omega)]; exact a2
  · rw [o 185 (by omega), o 188 (by omega)]; exact a3 t ht
  · rw [o 184 (by omega)]; exact c k hk w hw
  · rw [o 181 (by omega)]; exact d k hk
  · rw [o 182 (by omega)]; exact e k hk
theorem pkA_upd {B F : Nat → Nat} (h : pkA I0 I L B F) (c v : Nat) : pkA I0 (ab_u I 181 c (nI v)) L B (updF F c v) := by
  obtain ⟨⟨a1, a2, a3⟩, cc, d, e⟩ := h
  refine ⟨⟨fun r hr => (u_r (by omega)).trans (a1 r hr), ?_, fun t ht => ?_⟩, fun k hk w hw => ?_, fun k hk => ?_, fun k hk => ?_⟩
  · unfold tI at a2 ⊢
    rw [u_r (by omega)]; exact a2
  · rw [u_r (by omega), u_r (by omega)]; exact a3 t ht
  · rw [u_r (by omega)]; exact cc k hk w hw
  · unfold updF
    by_cases q : k = c
    · rw [if_pos q, q, u_e]
    · rw [if_neg q, u_k q]; exact d k hk
  · rw [u_r (by omega)]; exact e k hk
abbrev Xf (I0 : Nat → Nat → Int32) (t w : Nat) : Nat := tN I0 t w
abbrev Hf (I0 : Nat → Nat → Int32) (h w : Nat) : Nat := hN I0 h w
theorem wgt_bd (hg : mrg I0 NH NY NE NR) (hz : L0 L NY) (h12 : ∀ t, t < 6 → L t ≤ 12) {p : Nat → Nat} (hp : ∀ t, t < 6 → p t ≤ L t) {w : Nat} (hw : w < 2) : wgt p (fun t => Xf I0 t w) ≤ 6 * 3072 := by
  refine sn_le (fun t ht => ?_)
  have h1 := hp t ht
  by_cases e : t < NY
  · have h2 := (tN_is hg e hw).2.2
    have h3 := h12 t ht
    calc p t * tN I0 t w ≤ 12 * 256 := Nat.mul_le_mul (by omega) h2
      _ = 3072 := rfl
  · have h2 := hz t (by omega) ht
    have : p t = 0 := by omega
    rw [this, Nat.zero_mul]; omega
/-- all that can be put on the host beside a row of numbers -/
theorem c_addLoop (hc : mc I0 NH NY NE NR) (hg : mrg I0 NH NY NE NR) (hz : L0 (Lm ta n) NY) (h12 : ∀ t, t < 6 → Lm ta n t ≤ 12) (h729 : std (Lm ta n) 6 ≤ 729) (ok : okT ta n) {k v : Nat} {B : Nat → Nat} (hk : k < NH) (hv : v < std (Lm ta n) 6) (hB : CI ta (Xf I0) (Hf I0) n NH k B) (hBv : B v < 98) :
    ∀ (q fu i : Nat) (I : Nat → Nat → Int32) (F : Nat → Nat), i + q + 1 = std (Lv ta n v) 6 → q < fu → pkA I0 I (Lm ta n) B F → CN ta (Xf I0) (Hf I0) n NH k B v i F → odL I 189 (Lv ta n v) → odD I 189 (dg (Lv ta n v) i) (wst (std (Lm ta n)) (dg (Lv ta n v) i)) →
      ∃ I' F', bb_X6_addHost_172 fu 180 (nI v) (nI (B v + 1)) (nI (hN I0 k 0)) (nI (hN I0 k 1)) (nI i) (S0, I, J, x) = some ((), (S0, I', J, x)) ∧ (∀ r, r ≠ 181 → r < 189 ∨ 192 ≤ r → I' r = I r) ∧ pkA I0 I' (Lm ta n) B F' ∧ CM ta (Xf I0) (Hf I0) n NH k B (v + 1) F' := by
  have hLL : ∀ t, t < 6 → Lv ta n v t ≤ Lm ta n t := fun t _ => by unfold Lv; omega
  have hsm := std_mono hLL
  have hH0 := hN_is hg hk (show 0 < 2 by omega)
  have hH1 := hN_is hg hk (show 1 < 2 by omega)
  have eH0 : Hf I0 k 0 = hN I0 k 0 := rfl
  have eH1 : Hf I0 k 1 = hN I0 k 1 := rfl
  intro q
  induction q with
  | zero =>
    intro fu i I F e1 e2 hA hCN hO hD
    obtain ⟨fu, rfl⟩ : ∃ z, fu = z + 1 := ⟨fu - 1, by omega⟩
    obtain ⟨I1, z1, z2, z3⟩ := @c_step I J x (Lv ta n v) (std (Lm ta n)) 189 okA sh_189 sh_190 (by omega) hO (fun t ht => (hA.1.2.2 t ht).1) (fun t ht => Nat.le_trans (hLL t ht) (h12 t ht)) i hD
    have hq1 : qu (Lv ta n v) i 6 = 0 := qu_of (by omega)
    have hq2 : qu (Lv ta n v) (i + 1) 6 ≠ 0 := fun z => by have := qu_lt z; omega
    rw [if_neg (by omega)] at z1
    refine ⟨I1, F, ?_, fun r _ hr => z2 r (by omega) (by omega), pkA_sam hA (fun r hr => z2 r (by omega) (by omega)), CN_end ok h729 hB hCN (by omega)⟩
    rw [bb_X6_addHost_172, if_neg (by rw [li_n 729, li_le (by omega) (by omega)]; omega), p_f5, ob_s, p_f3, ob_s, a_rc, ob_s, z1, ob_s]
    rfl
  | succ q ih =>
    intro fu i I F e1 e2 hA hCN hO hD
    obtain ⟨fu, rfl⟩ : ∃ z, fu = z + 1 := ⟨fu - 1, by omega⟩
    obtain ⟨I1, z1, z2, z3⟩ := @c_step I J x (Lv ta n v) (std (Lm ta n)) 189 okA sh_189 sh_190 (by omega) hO (fun t ht => (hA.1.2.2 t ht).1) (fun t ht => Nat.le_trans (hLL t ht) (h12 t ht)) i hD
    have hq1 : qu (Lv ta n v) i 6 = 0 := qu_of (by omega)
    have hq2 : qu (Lv ta n v) (i + 1) 6 = 0 := qu_of (by omega)
    have hqe : qu (Lv ta n v) (i + 1) 6 = qu (Lv ta n v) i 6 := by omega
    rw [if_pos hqe] at z1
    have hD1 := z3 hqe
    have hA1 : pkA I0 I1 (Lm ta n) B F := pkA_sam hA (fun r hr => z2 r (by omega) (by omega))
    have hO1 : odL I1 189 (Lv ta n v) := fun t ht => by rw [z2 (189 + 2) (by omega) (by omega)]; exact hO t ht
    -- the row's code
    have hpL : ∀ t, t < 6 → dg (Lv ta n v) (i + 1) t ≤ Lm ta n t := fun t ht => Nat.le_trans dg_le (hLL t ht)
    have hcl : wst (std (Lm ta n)) (dg (Lv ta n v) (i + 1)) < std (Lm ta n) 6 := cdv_lt (L := Lm ta n) hpL
    have hdc : ∀ t, t < 6 → dg (Lm ta n) (wst (std (Lm ta n)) (dg (Lv ta n v) (i + 1))) t = dg (Lv ta n v) (i + 1) t := (dg_cdv (L := Lm ta n) (p := dg (Lv ta n v) (i + 1)) (k := 6) hpL).2
    have hboth : v + wst (std (Lm ta n)) (dg (Lv ta n v) (i + 1)) < 729 := by
      have a1 : cdv (Lm ta n) (fun t => dg (Lm ta n) v t + dg (Lv ta n v) (i + 1) t) 6 < std (Lm ta n) 6 := cdv_lt (fun t ht => by
        have h1 := dg_le (L := Lv ta n v) (i := i + 1) (t := t)
        have h2 := dg_le (L := Lm ta n) (i := v) (t := t)
        have h3 : Lv ta n v t = Lm ta n t - dg (Lm ta n) v t := rfl
        omega)
      rw [cdv_add] at a1
      have q := qu_sum (Lm ta n) v 6
      rw [qu_of hv, Nat.zero_mul, Nat.add_zero] at q
      have a2 : wst (std (Lm ta n)) (dg (Lv ta n v) (i + 1)) = cdv (Lm ta n) (dg (Lv ta n v) (i + 1)) 6 := rfl
      omega
    have hpz : ∃ t, t < 6 ∧ dg (Lv ta n v) (i + 1) t ≠ 0 := Classical.byContradiction fun c => by
      have q := qu_sum (Lv ta n v) (i + 1) 6
      have z : cdv (Lv ta n v) (dg (Lv ta n v) (i + 1)) 6 = 0 := by
        unfold cdv
        rw [sn_congr (g' := fun _ => 0) (fun t ht => ?_), sn_0]
        have : dg (Lv ta n v) (i + 1) t = 0 := Classical.byContradiction fun c2 => c ⟨t, ht, c2⟩
        rw [this, Nat.zero_mul]
      rw [z, hq2] at q
      omega
    have hW : ∀ w, w < 2 → I1 184 (wst (std (Lm ta n)) (dg (Lv ta n v) (i + 1)) * 2 + w) = nI (wgt (dg (Lv ta n v) (i + 1)) (fun t => Xf I0 t w)) := fun w hw => by
      rw [hA1.2.1 _ hcl w hw]
      exact congrArg nI (wgt_congr hdc)
    have hb0 := wgt_bd hg hz h12 hpL (show 0 < 2 by omega)
    have hb1 := wgt_bd hg hz h12 hpL (show 1 < 2 by omega)
    have g0 := tb_get (J := J) (x := x) tbN hA1.1.2.1 (row := nI (wst (std (Lm ta n)) (dg (Lv ta n v) (i + 1)))) (col := 0) rfl li_0 (show wst (std (Lm ta n)) (dg (Lv ta n v) (i + 1)) < 729 by omega) (by omega)
    have g1 := tb_get (J := J) (x := x) tbN hA1.1.2.1 (row := nI (wst (std (Lm ta n)) (dg (Lv ta n v) (i + 1)))) (col := 1) rfl (li_n 1) (show wst (std (Lm ta n)) (dg (Lv ta n v) (i + 1)) < 729 by omega) (by omega)
    rw [show I1 (183 + 1) (wst (std (Lm ta n)) (dg (Lv ta n v) (i + 1)) * 2 + 0) = _ from hW 0 (by omega)] at g0
    rw [show I1 (183 + 1) (wst (std (Lm ta n)) (dg (Lv ta n v) (i + 1)) * 2 + 1) = _ from hW 1 (by omega)] at g1
    have cod : I1 189 2 = nI (wst (std (Lm ta n)) (dg (Lv ta n v) (i + 1))) := hD1.2
    have hF1 : F (v + wst (std (Lm ta n)) (dg (Lv ta n v) (i + 1))) ≤ 99 := Nat.le_trans (hCN.1.1 _ hboth) (hB.1 _ hboth)
    rw [bb_X6_addHost_172, if_neg (by rw [li_n 729, li_le (by omega) (by omega)]; omega), p_f5, ob_s, p_f3, ob_s, a_rc, ob_s, z1, ob_s, if_neg n10, p_f5, ob_s, a_c, ob_s, p_f2, ob_s, ob_s, a_c, ob_s, t_182, ob_s, cod, g0, ob_s, li_add]
    have nofit : ¬ (wgt (dg (Lv ta n v) (i + 1)) (fun t => Xf I0 t 0) ≤ Hf I0 k 0 ∧ wgt (dg (Lv ta n v) (i + 1)) (fun t => Xf I0 t 1) ≤ Hf I0 k 1) → ∃ I' F', bb_X6_addHost_250 (bb_X6_addHost_172 fu) 180 (nI v) (nI (B v + 1)) (nI (hN I0 k 0)) (nI (hN I0 k 1)) (nI i) (nI (v + wst (std (Lm ta n)) (dg (Lv ta n v) (i + 1)))) (S0, I1, J, x) = some ((), (S0, I', J, x)) ∧ (∀ r, r ≠ 181 → r < 189 ∨ 192 ≤ r → I' r = I r) ∧ pkA I0 I' (Lm ta n) B F' ∧ CM ta (Xf I0) (Hf I0) n NH k B (v + 1) F' := by
      intro hnf
      have hN2 := CN_step ok h729 hk hv hB hCN (Or.inr hBv) (dg (Lv ta n v) (i + 1)) (fun _ _ => rfl) hpz (Or.inr ⟨hnf, rfl⟩)
      obtain ⟨I', F', y1, y2, y3, y4⟩ := ih fu (i + 1) I1 F (by omega) (by omega) hA1 hN2 hO1 hD1
      refine ⟨I', F', ?_, fun r a c => (y2 r a c).trans (z2 r (by omega) (by omega)), y3, y4⟩
      rw [bb_X6_addHost_250, bb_X6_addHost_251, if_pos rfl, bb_X6_addHost_292, nI_1]
      exact y1
    by_cases c0 : wgt (dg (Lv ta n v) (i + 1)) (fun t => Xf I0 t 0) ≤ Hf I0 k 0
    · rw [if_neg (by rw [li_lt (by omega) (by omega)]; omega), p_f2, ob_s, p_f5, ob_s, a_c, ob_s, t_182, ob_s, cod, g1, ob_s]
      by_cases c1 : wgt (dg (Lv ta n v) (i + 1)) (fun t => Xf I0 t 1) ≤ Hf I0 k 1
      · have hN2 := CN_step (F' := updF F (v + wst (std (Lm ta n)) (dg (Lv ta n v) (i + 1))) (min (F (v + wst (std (Lm ta n)) (dg (Lv ta n v) (i + 1)))) (B v + 1))) ok h729 hk hv hB hCN (Or.inr hBv) (dg (Lv ta n v) (i + 1)) (fun _ _ => rfl) hpz (Or.inl ⟨⟨c0, c1⟩, rfl⟩)
        have hA2 := pkA_upd hA1 (v + wst (std (Lm ta n)) (dg (Lv ta n v) (i + 1))) (min (F (v + wst (std (Lm ta n)) (dg (Lv ta n v) (i + 1)))) (B v + 1))
        obtain ⟨I', F', y1, y2, y3, y4⟩ := ih fu (i + 1) _ _ (by omega) (by omega) hA2 hN2 (fun t ht => by rw [u_r (by omega)]; exact hO1 t ht) ⟨fun t ht => by rw [u_r (by omega)]; exact hD1.1 t ht, by rw [u_r (by omega)]; exact hD1.2⟩
        refine ⟨I', F', ?_, fun r a c => (y2 r a c).trans ((u_r a).trans (z2 r (by omega) (by omega))), y3, y4⟩
        have ef : I1 181 (v + wst (std (Lm ta n)) (dg (Lv ta n v) (i + 1))) = nI (F (v + wst (std (Lm ta n)) (dg (Lv ta n v) (i + 1)))) := hA1.2.2.1 _ hboth
        have em : (if nI (B v + 1) < nI (F (v + wst (std (Lm ta n)) (dg (Lv ta n v) (i + 1)))) then nI (B v + 1) else nI (F (v + wst (std (Lm ta n)) (dg (Lv ta n v) (i + 1))))) = nI (min (F (v + wst (std (Lm ta n)) (dg (Lv ta n v) (i + 1)))) (B v + 1)) := by
          by_cases e : B v + 1 < F (v + wst (std (Lm ta n)) (dg (Lv ta n v) (i + 1)))
          · rw [if_pos (by rw [li_lt (by omega) (by omega)]; exact e), Nat.min_eq_right (by omega)]
          · rw [if_neg (by rw [li_lt (by omega) (by omega)]; exact e), Nat.min_eq_left (by omega)]
        rw [if_neg (by rw [li_lt (by omega) (by omega)]; omega), bb_X6_addHost_251, if_neg n10, if_neg (li_pos (by omega)), p_f0, ob_s, op_len sh_180, ob_s, if_neg (by rw [li_le (by omega) (by omega)]; omega), ob_s, ob_s, op_ld sh_180 rfl hboth (by omega), ob_s, ef, em, op_st _ sh_180 rfl hboth (by omega), ob_s, bb_X6_addHost_292, nI_1]
        exact y1
      · rw [if_pos (by rw [li_lt (by omega) (by omega)]; omega)]
        exact nofit (fun z => c1 z.2)
    · rw [if_pos (by rw [li_lt (by omega) (by omega)]; omega)]
      exact nofit (fun z => c0 z.1)
theorem c_addHost (hc : mc I0 NH NY NE NR) (hg : mrg I0 NH NY NE NR) (hl : clR I0 NH NY NE NR) (hz : L0 (Lm ta n) NY) (h12 : ∀ t, t < 6 → Lm ta n t ≤ 12) (h729 : std (Lm ta n) 6 ≤ 729) (ok : okT ta n) {k v : Nat} {B F : Nat → Nat} (hk : k < NH) (hv : v < std (Lm ta n) 6) (hB : CI ta (Xf I0) (Hf I0) n NH k B) (hA : pkA I0 I (Lm ta n) B F) (hM : CM ta (Xf I0) (Hf I0) n NH k B v F) (hD : odD I 186 (dg (Lm ta n) v) v) :
    ∃ I' F', dd_X6_addHost 180 18 (nI k) (nI (cds ta n (fl n))) (S0, I, J, x) = some ((), (S0, I', J, x)) ∧ pkA I0 I' (Lm ta n) B F' ∧ CM ta (Xf I0) (Hf I0) n NH k B (v + 1) F' ∧ odD I' 186 (dg (Lm ta n) v) v := by
  have h8 := hc.2.1
  have hall := all_729 (ta := ta) h729
  have hBv := hB.1 v (by omega)
  have hFa : F (cds ta n (fl n)) ≤ 99 := Nat.le_trans (hM.1 _ hall) (hB.1 _ hall)
  have head : dd_X6_addHost 180 18 (nI k) (nI (cds ta n (fl n))) (S0, I, J, x) = if B v + 1 < F (cds ta n (fl n)) then bb_X6_addHost_64 ab_fu 180 18 (nI k) (nI v) (nI (B v + 1)) 0 (S0, I, J, x) else some ((), (S0, I, J, x)) := by
    unfold dd_X6_addHost
    rw [p_f4, ob_s, o_c, ob_s, hD.2, if_neg (li_pos (by omega)), p_f1, ob_s, op_len sh_181, ob_s, if_neg (by rw [li_le (by omega) (by omega)]; omega), if_neg (li_pos (by omega)), p_f0, ob_s, op_len sh_180, ob_s, if_pos (by rw [li_lt (by omega) (by omega)]; omega), ob_s, op_ld sh_181 rfl (show v < 729 by omega) (by omega), ob_s, ob_s, op_ld sh_180 rfl hall (by omega), ob_s, hA.2.2.1 _ hall, hA.2.2.2 v (by omega), nI_1]
    simp only [li_lt (show B v + 1 < 2 ^ 31 by omega) (show F (cds ta n (fl n)) < 2 ^ 31 by omega)]
  rw [head]
  by_cases hp : B v + 1 < F (cds ta n (fl n))
  · rw [if_pos hp]
    have hlI : clR I NH NY NE NR := clR_sam hl (fun r a e => hA.1.1 r (by omega)) (fun r a e => hA.1.1 r (by omega))
    -- the limits
    have lim : ∀ (q fu j : Nat) (I1 : Nat → Nat → Int32), j + q = 6 → q < fu → (∀ r, r ≠ 191 → I1 r = I r) → (∀ t, t < j → I1 191 t = nI (Lv ta n v t)) → ∃ I2, bb_X6_addHost_64 fu 180 18 (nI k) (nI v) (nI (B v + 1)) (nI j) (S0, I1, J, x) = bb_X6_addHost_140 180 18 (nI k) (nI v) (nI (B v + 1)) (S0, I2, J, x) ∧ (∀ r, r ≠ 191 → I2 r = I r) ∧ (∀ t, t < 6 → I2 191 t = nI (Lv ta n v t)) := by
      intro q
      induction q with
      | zero =>
        intro fu j I1 e1 e2 e3 e4
        obtain ⟨fu, rfl⟩ : ∃ z, fu = z + 1 := ⟨fu - 1, by omega⟩
        have ej : j = 6 := by omega
        subst ej
        refine ⟨I1, ?_, e3, e4⟩
        rw [bb_X6_addHost_64, p_f5, ob_s, a_f1, ob_s, op_len sh_190, ob_s, if_pos (le_self _)]
      | succ q ih =>
        intro fu j I1 e1 e2 e3 e4
        obtain ⟨fu, rfl⟩ : ∃ z, fu = z + 1 := ⟨fu - 1, by omega⟩
        have j6 : j < 6 := by omega
        have d1 : I1 187 j = nI (dg (Lm ta n) v j) := by rw [e3 187 (by omega)]; exact hD.1 j j6
        have d2 : I1 188 j = nI (Lm ta n j) := by rw [e3 188 (by omega)]; exact (hA.1.2.2 j j6).2
        rw [bb_X6_addHost_64, p_f5, ob_s, a_f1, ob_s, op_len sh_190, ob_s, if_neg (by rw [li_le (by omega) (by omega)]; omega), p_f4, ob_s, o_f1, ob_s, op_len sh_187, ob_s, if_neg (by rw [li_le (by omega) (by omega)]; omega), ob_s, o_f0, ob_s, op_len sh_186, ob_s, if_neg (by rw [li_le (by omega) (by omega)]; omega), ob_s, a_f1, ob_s, ob_s, o_f1, ob_s, op_ld sh_187 rfl j6 (by omega), ob_s, ob_s, o_f0, ob_s, op_ld sh_186 rfl j6 (by omega), ob_s, d1, d2, pk_sub dg_le, op_st _ sh_190 rfl j6 (by omega), ob_s, nI_1]
        refine ih fu (j + 1) _ (by omega) (by omega) (fun r hr => by rw [u_r hr]; exact e3 r hr) (fun t ht => ?_)
        by_cases e : t = j
        · rw [e, u_e]; rfl
        · rw [u_k e]; exact e4 t (by omega)
    obtain ⟨I2, y1, y2, y3⟩ := lim 6 ab_fu 0 I (by omega) (ab_fu_big (by omega)) (fun _ _ => rfl) (fun t ht => by omega)
    have hlI2 : clR I2 NH NY NE NR := clR_sam hlI (fun r a e => y2 r (by omega)) (fun r a e => y2 r (by omega))
    have eg : ∀ w, w < 2 → gh I2 18 k w = nI (hN I0 k w) := fun w hw => by
      rw [hlI2.2.2.1 k hk w hw]
      unfold mh
      rw [y2 203 (by omega), hA.1.1 203 (by omega)]
      exact (hN_is hg hk hw).1
    have g0 : dd_X10_get 19 (nI k) 0 (S0, I2, J, x) = some (gh I2 18 k 0, (S0, I2, J, x)) := cl_geth cl17 hlI2.1 rfl li_0 (by omega) (by omega)
    have g1 : dd_X10_get 19 (nI k) 1 (S0, I2, J, x) = some (gh I2 18 k 1, (S0, I2, J, x)) := cl_geth cl17 hlI2.1 rfl (li_n 1) (by omega) (by omega)
    obtain ⟨I3, w1, w2, w3⟩ := @c_restart I2 J x 189 okA sh_189 (Lv ta n v) (std (Lm ta n))
    have hA3 : pkA I0 I3 (Lm ta n) B F := pkA_sam (pkA_sam hA (fun r hr => y2 r (by omega))) (fun r hr => w2 r (by omega) (by omega))
    have h0 := std_pos (Lv ta n v) 6
    have hst : std (Lv ta n v) 6 ≤ 729 := Nat.le_trans (std_mono (fun t _ => by unfold Lv; omega)) h729
    obtain ⟨I4, F', v1, v2, v3, v4⟩ := @c_addLoop I0 J x NH NY NE NR n ta hc hg hz h12 h729 ok k v B hk hv hB (by omega) (std (Lv ta n v) 6 - 1) ab_fu 0 I3 F (by omega) (ab_fu_big (by omega)) hA3 (CN_start hM) (fun t ht => by rw [w2 (189 + 2) (by omega) (by omega)]; exact y3 t ht) w3
    refine ⟨I4, F', ?_, v3, v4, fun t ht => ?_, ?_⟩
    · refine y1.trans ?_
      rw [bb_X6_addHost_140, d_R0, ob_s, t_18, ob_s, g0, ob_s, d_R0, ob_s, t_18, ob_s, g1, ob_s, p_f5, ob_s, a_rc, ob_s, w1, ob_s, eg 0 (by omega), eg 1 (by omega)]
      exact v1
    · rw [v2 (186 + 1) (by omega) (by omega), w2 (186 + 1) (by omega) (by omega), y2 (186 + 1) (by omega)]; exact hD.1 t ht
    · rw [v2 186 (by omega) (by omega), w2 186 (by omega) (by omega), y2 186 (by omega)]; exact hD.2
  · rw [if_neg hp]
    exact ⟨I, F, rfl, hA, CM_prune h729 hB hM (by omega), hD⟩
end PH
