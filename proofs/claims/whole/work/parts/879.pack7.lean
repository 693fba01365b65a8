/-! ===== the fewest hosts: the reference's hosts, and the call ===== -/
section PN
variable {I I' I0 I1 I2 I3 I4 : Nat → Nat → Int32} {J J' J1 J2 J3 J4 : Nat → Nat → Int64} {x : Nat} {NH NY NE NR s d u tp u' tp' n : Nat} {f g f' : Nat → Int64} {L st ta : Nat → Nat}
/-- the reference's rows while the hosts are looked at -/
def mdA (I0 I : Nat → Nat → Int32) (f : Nat → Int64) (n : Nat) (B F : Nat → Nat) : Prop := mdS I0 I f (2 ^ n) ∧ mdF I 211 F (2 ^ n) ∧ mdF I 212 B (2 ^ n)
theorem mdA_upd {B F : Nat → Nat} (h : mdA I0 I f n B F) (c v : Nat) : mdA I0 (ab_u I 211 c (nI v)) f n B (updF F c v) := by
  obtain ⟨⟨a1, a2⟩, c1, c2⟩ := h
  refine ⟨⟨fun r hr => by rw [u_r (by omega)]; exact a1 r hr, fun s hs => by rw [u_r (by omega), u_r (by omega)]; exact a2 s hs⟩, fun s hs => ?_, fun s hs => by rw [u_r (by omega)]; exact c2 s hs⟩
  unfold updF
  by_cases e : s = c
  · rw [e, if_pos rfl, u_e]
  · rw [if_neg e, u_k e]; exact c1 s hs
theorem ok_rest {r q : Nat} (hq : q < 2 ^ n) (hn : n ≤ 12) (hr : sbs r (rst (fl n) q)) : r &&& q = 0 ∧ r ||| q < 2 ^ n ∧ r < 2 ^ n := by
  have f4 : fl n < 4096 := Nat.lt_of_lt_of_le (fl_lt (fun _ h => h)) (fl_4096 hn)
  have hr2 : r < 2 ^ n := fl_lt (fun i hi => rst_sbs f4 i (hr i hi))
  refine ⟨Nat.eq_of_testBit_eq (fun j => ?_), Nat.or_lt_two_pow hr2 hq, hr2⟩
  rw [Nat.testBit_and, Nat.zero_testBit]
  cases hb : r.testBit j with
  | false => rfl
  | true =>
    have := hr j hb
    rw [rst_bit f4] at this
    simp at this
    simp [this.2]
theorem rest_ok {r q : Nat} (hn : n ≤ 12) (h1 : r &&& q = 0) (h2 : r ||| q < 2 ^ n) : sbs r (rst (fl n) q) := fun j hb => by
  have f4 : fl n < 4096 := Nat.lt_of_lt_of_le (fl_lt (fun _ h => h)) (fl_4096 hn)
  rw [rst_bit f4]
  have a := lt_fl h2 j (by rw [Nat.testBit_or, hb]; rfl)
  have b : (r &&& q).testBit j = false := by rw [h1]; simp
  rw [Nat.testBit_and, hb] at b
  simp at b
  rw [a, b]
  rfl
theorem m_rests (hn : nrf f ≤ 12) {k q : Nat} {B : Nat → Nat} (hB : MI (tf f) (Xf I0) (Hf I0) (nrf f) k B) (hq0 : q ≠ 0) (hq : q < 2 ^ nrf f) (hf : fitS (tf f) (Xf I0) (Hf I0) k q) (r29 : Nat → Int32 → Int32 → Int32 → ab_Mm → Option (Unit × ab_Mm)) (l1 : Int32) :
    ∀ (r fu r' : Nat) (I : Nat → Nat → Int32) (F : Nat → Nat), r + 1 < fu → sbs r (rst (fl (nrf f)) q) → (∀ rest, rest &&& q = 0 → rest ||| q < 2 ^ nrf f → rest < r' → rest ≤ r) → mdA I0 I f (nrf f) B F → MN (tf f) (Xf I0) (Hf I0) (nrf f) k B q r' F →
      ∃ I' F', bb_X12_addsHost_90 r29 fu 200 l1 (nI (nrf f)) (nI q) (nI (rst (fl (nrf f)) q)) (nI r) (S0, I, jr J f, x) = r29 200 l1 (nI (nrf f)) (nI q + 1) (S0, I', jr J f, x) ∧ mdA I0 I' f (nrf f) B F' ∧ MM (tf f) (Xf I0) (Hf I0) (nrf f) k B (q + 1) F' := by
  have h4 := fl_4096 hn
  have hf4 : fl (nrf f) < 4096 := Nat.lt_of_lt_of_le (fl_lt (fun _ h => h)) h4
  have hrs := rst_lt (fl (nrf f)) q
  intro r
  induction r using Nat.strongRecOn with
  | ind r ih =>
    intro fu r' I F e1 hr hrr hA hM
    obtain ⟨fu, rfl⟩ : ∃ z, fu = z + 1 := ⟨fu - 1, by omega⟩
    obtain ⟨o1, o2, o3⟩ := ok_rest hq hn hr
    have cb : I 212 r = nI (B r) := hA.2.2 r o3
    have cf : I 211 (r ||| q) = nI (F (r ||| q)) := hA.2.1 _ o2
    have bB := (hB.1 r o3).1
    have bF := Nat.le_trans (hM.1.1 _ o2).1 (hB.1 _ o2).1
    have hM2 := MN_step hB hM hq0 hf o1 o2 hrr o3
    have hA2 := mdA_upd hA (r ||| q) (if B r + 1 < F (r ||| q) then B r + 1 else F (r ||| q))
    generalize updF F (r ||| q) (if B r + 1 < F (r ||| q) then B r + 1 else F (r ||| q)) = F2 at hM2 hA2
    have go : bb_X12_addsHost_90 r29 (fu + 1) 200 l1 (nI (nrf f)) (nI q) (nI (rst (fl (nrf f)) q)) (nI r) (S0, I, jr J f, x) = bb_X12_addsHost_142 r29 (bb_X12_addsHost_90 r29 fu) 200 l1 (nI (nrf f)) (nI q) (nI (rst (fl (nrf f)) q)) (nI r) 211 (nI (r ||| q)) (nI (if B r + 1 < F (r ||| q) then B r + 1 else F (r ||| q))) (S0, I, jr J f, x) := by
      rw [bb_X12_addsHost_90, if_neg (li_pos (by omega)), m_R23, ob_s, op_ld sh_210 rfl (by omega) (by omega), ob_s, m_R22, ob_s, ob_s, li_or, op_ld sh_209 rfl (by omega) (by omega), ob_s, cb, cf, nI_1]
      by_cases c : B r + 1 < F (r ||| q)
      · rw [if_neg (by rw [li_le (by omega) (by omega)]; omega), if_pos c]
      · rw [if_pos (by rw [li_le (by omega) (by omega)]; omega), if_neg c, ob_s, op_ld sh_209 rfl (by omega) (by omega), ob_s, cf]
    rw [go, bb_X12_addsHost_142, op_st _ sh_209 rfl (by omega) (by omega), ob_s]
    generalize ab_u I 211 (r ||| q) (nI (if B r + 1 < F (r ||| q) then B r + 1 else F (r ||| q))) = I2 at hA2
    by_cases hz : r = 0
    · subst hz
      obtain ⟨fu, rfl⟩ : ∃ z, fu = z + 1 := ⟨fu - 1, by omega⟩
      refine ⟨I2, F2, ?_, hA2, MN_end hM2⟩
      rw [if_pos (show nI 0 = 0 from rfl), bb_X12_addsHost_159, bb_X12_addsHost_90, if_pos (by decide)]
      rfl
    · have hle : (r - 1) &&& rst (fl (nrf f)) q ≤ r - 1 := Nat.and_le_left
      have hs2 : sbs ((r - 1) &&& rst (fl (nrf f)) q) (rst (fl (nrf f)) q) := fun i hi => by
        rw [Nat.testBit_and] at hi
        simp at hi
        exact hi.2
      rw [if_neg (by rw [li_0, li_eq (by omega) (by omega)]; exact hz), bb_X12_addsHost_159, li_n 1, pk_sub (by omega), li_and]
      exact ih ((r - 1) &&& rst (fl (nrf f)) q) (by omega) fu r I2 F2 (by omega) hs2 (fun rest h1 h2 h3 => sub_nx 12 rest r _ hrs (rest_ok hn h1 h2) hr h3) hA2 hM2
theorem m_parts (hc : mc I0 NH NY NE NR) (hg : mrg I0 NH NY NE NR) (hw : wff I0 NH NY NE f) {k : Nat} {B : Nat → Nat} (hk : k < NH) (hB : MI (tf f) (Xf I0) (Hf I0) (nrf f) k B) :
    ∀ (p fu q : Nat) (I : Nat → Nat → Int32) (F : Nat → Nat), q + p = 2 ^ nrf f → p < fu → q ≠ 0 → mdA I0 I f (nrf f) B F → MM (tf f) (Xf I0) (Hf I0) (nrf f) k B q F →
      ∃ I' F', bb_X12_addsHost_29 fu 200 (nI k) (nI (nrf f)) (nI q) (S0, I, jr J f, x) = some ((), (S0, I', jr J f, x)) ∧ mdA I0 I' f (nrf f) B F' ∧ MM (tf f) (Xf I0) (Hf I0) (nrf f) k B (2 ^ nrf f) F' := by
  have hn := nrf_le (f := f)
  have h4 := fl_4096 hn
  have h8 := hc.2.1
  have hf4 : fl (nrf f) < 4096 := Nat.lt_of_lt_of_le (fl_lt (fun _ h => h)) h4
  have hH0 := hN_is hg hk (show 0 < 2 by omega)
  have hH1 := hN_is hg hk (show 1 < 2 by omega)
  have gb : ∀ w, w < 2 → ∀ s, s < 2 ^ nrf f → smt (gw I0 f w) s ≤ 12 * 256 := fun w hw2 s hs => smt_B (fun i hi hb => by
    have hi2 := lt_fl hs i hb
    rw [fl_bit] at hi2
    have hi3 : i < nrf f := by simpa using hi2
    have e := el_is (p := rn f) (k := 12) (j := i) hi3
    exact (tN_is hg (ty_lt hw.2.2.1 e.1 e.2) hw2).2.2)
  intro p
  induction p with
  | zero =>
    intro fu q I F e1 e2 e3 hA hM
    obtain ⟨fu, rfl⟩ : ∃ z, fu = z + 1 := ⟨fu - 1, by omega⟩
    have eq : q = 2 ^ nrf f := by omega
    refine ⟨I, F, ?_, hA, by rw [← eq]; exact hM⟩
    rw [bb_X12_addsHost_29, li_sh13 _ (by omega), if_pos (by rw [li_le (by omega) (by omega)]; omega)]
  | succ p ih =>
    intro fu q I F e1 e2 e3 hA hM
    obtain ⟨fu, rfl⟩ : ∃ z, fu = z + 1 := ⟨fu - 1, by omega⟩
    have hq : q < 2 ^ nrf f := by omega
    have c0 := (hA.1.2 q hq).1
    have c1 := (hA.1.2 q hq).2
    have b0 := gb 0 (by omega) q hq
    have b1 := gb 1 (by omega) q hq
    have m0 : I 203 (2 * k + 0) = nI (hN I0 k 0) := by
      rw [hA.1.1 203 (by omega)]; exact hH0.1
    have m1 : I 203 (2 * k + 1) = nI (hN I0 k 1) := by
      rw [hA.1.1 203 (by omega)]; exact hH1.1
    have ef : fitS (tf f) (Xf I0) (Hf I0) k q = (smt (gw I0 f 0) q ≤ hN I0 k 0 ∧ smt (gw I0 f 1) q ≤ hN I0 k 1) := rfl
    have skip : ¬ fitS (tf f) (Xf I0) (Hf I0) k q → ∃ I' F', bb_X12_addsHost_164 (bb_X12_addsHost_29 fu) 200 (nI k) (nI (nrf f)) (nI q) (S0, I, jr J f, x) = some ((), (S0, I', jr J f, x)) ∧ mdA I0 I' f (nrf f) B F' ∧ MM (tf f) (Xf I0) (Hf I0) (nrf f) k B (2 ^ nrf f) F' := fun hnf => by
      rw [bb_X12_addsHost_164, nI_1]
      exact ih fu (q + 1) I F (by omega) (by omega) (by omega) hA (MM_skip hM hnf)
    have sub1 : nI (2 ^ nrf f) - 1 = nI (fl (nrf f)) := by
      have := Nat.two_pow_pos (nrf f)
      rw [li_n 1, pk_sub (by omega)]
    rw [bb_X12_addsHost_29, li_sh13 _ (by omega), if_neg (by rw [li_le (by omega) (by omega)]; omega), m_R24, ob_s, op_ld sh_211 rfl (by omega) (by omega), ob_s, m_R3, ob_s, x2, m_hosts (by omega), ob_s, c0, m0]
    by_cases f0 : smt (gw I0 f 0) q ≤ hN I0 k 0
    · rw [if_neg (by rw [li_lt (by omega) (by omega)]; omega), m_R25, ob_s, op_ld sh_212 rfl (by omega) (by omega), ob_s, ob_s, x2a, m_hosts (by omega), ob_s, c1, m1]
      by_cases f1 : smt (gw I0 f 1) q ≤ hN I0 k 1
      · rw [if_pos (by rw [li_le (by omega) (by omega)]; omega), sub1, li_rst hf4]
        obtain ⟨I2, F2, r1, r2, r3⟩ := @m_rests I0 J x f hn k q B hB e3 hq (by rw [ef]; exact ⟨f0, f1⟩) (bb_X12_addsHost_29 fu) (nI k) (rst (fl (nrf f)) q) ab_fu (rst (fl (nrf f)) q + 1) I F (by have := rst_lt (fl (nrf f)) q; exact ab_fu_big (by omega)) (fun _ h => h) (fun rest _ _ h => by omega) hA (MN_start hM (fun rest h1 h2 => by have := sbs_le (rest_ok hn h1 h2); omega))
        obtain ⟨I3, F3, s1, s2, s3⟩ := ih fu (q + 1) I2 F2 (by omega) (by omega) (by omega) r2 r3
        refine ⟨I3, F3, ?_, s2, s3⟩
        refine r1.trans ?_
        rw [nI_1]
        exact s1
      · rw [if_neg (by rw [li_le (by omega) (by omega)]; omega)]
        exact skip (by rw [ef]; exact fun z => f1 z.2)
    · rw [if_pos (by rw [li_lt (by omega) (by omega)]; omega)]
      exact skip (by rw [ef]; exact fun z => f0 z.1)
theorem m_addsHost (hc : mc I0 NH NY NE NR) (hg : mrg I0 NH NY NE NR) (hw : wff I0 NH NY NE f) {k : Nat} {F : Nat → Nat} (hk : k < NH) (hB : MI (tf f) (Xf I0) (Hf I0) (nrf f) k F) (hS : mdS I0 I f (2 ^ nrf f)) (hF : mdF I 211 F (2 ^ nrf f)) :
    ∃ I' F', dd_X12_addsHost 200 (nI k) (nI (nrf f)) (S0, I, jr J f, x) = some ((), (S0, I', jr J f, x)) ∧ mdS I0 I' f (2 ^ nrf f) ∧ mdF I' 211 F' (2 ^ nrf f) ∧ MI (tf f) (Xf I0) (Hf I0) (nrf f) (k + 1) F' := by
  have hn := nrf_le (f := f)
  have h4 := fl_4096 hn
  have hpos := Nat.two_pow_pos (nrf f)
  have loop : ∀ (q fu t : Nat) (I1 : Nat → Nat → Int32), t + q = 2 ^ nrf f → q < fu → (∀ r, r ≠ 212 → I1 r = I r) → mdF I1 212 F t → ∃ I2, bb_X12_addsHost_2 fu 200 (nI k) (nI (nrf f)) (nI t) (S0, I1, jr J f, x) = bb_X12_addsHost_29 ab_fu 200 (nI k) (nI (nrf f)) 1 (S0, I2, jr J f, x) ∧ (∀ r, r ≠ 212 → I2 r = I r) ∧ mdF I2 212 F (2 ^ nrf f) := by
    intro q
    induction q with
    | zero =>
      intro fu t I1 e1 e2 e3 e4
      obtain ⟨fu, rfl⟩ : ∃ z, fu = z + 1 := ⟨fu - 1, by omega⟩
      refine ⟨I1, ?_, e3, by rw [show 2 ^ nrf f = t by omega]; exact e4⟩
      rw [bb_X12_addsHost_2, li_sh13 _ (by omega), if_pos (by rw [li_le (by omega) (by omega)]; omega)]
    | succ q ih =>
      intro fu t I1 e1 e2 e3 e4
      obtain ⟨fu, rfl⟩ : ∃ z, fu = z + 1 := ⟨fu - 1, by omega⟩
      have c : I1 211 t = nI (F t) := by rw [e3 211 (by omega)]; exact hF t (by omega)
      rw [bb_X12_addsHost_2, li_sh13 _ (by omega), if_neg (by rw [li_le (by omega) (by omega)]; omega), m_R23, ob_s, m_R22, ob_s, op_ld sh_209 rfl (by omega) (by omega), ob_s, c, op_st _ sh_210 rfl (by omega) (by omega), ob_s, nI_1]
      refine ih fu (t + 1) _ (by omega) (by omega) (fun r hr => by rw [u_r hr]; exact e3 r hr) (fun s hs => ?_)
      by_cases e : s = t
      · rw [e, u_e]
      · rw [u_k e]; exact e4 s (by omega)
  obtain ⟨I2, r1, r2, r3⟩ := loop (2 ^ nrf f) ab_fu 0 I (by omega) (ab_fu_big (by omega)) (fun _ _ => rfl) (fun s hs => by omega)
  have hA : mdA I0 I2 f (nrf f) F F := ⟨⟨fun r hr => by rw [r2 r (by omega)]; exact hS.1 r hr, fun s hs => by rw [r2 213 (by omega), r2 214 (by omega)]; exact hS.2 s hs⟩, fun s hs => by rw [r2 211 (by omega)]; exact hF s hs, r3⟩
  obtain ⟨I3, F3, s1, s2, s3⟩ := @m_parts I0 J x NH NY NE NR f hc hg hw k F hk hB (2 ^ nrf f - 1) ab_fu 1 I2 F (by omega) (ab_fu_big (by omega)) (by omega) hA (MM_start hB)
  exact ⟨I3, F3, r1.trans s1, s2.1, s2.2.1, MI_end hB s3⟩
theorem m_hostLoop (hc : mc I0 NH NY NE NR) (hg : mrg I0 NH NY NE NR) (hw : wff I0 NH NY NE f) : ∀ (q fu k : Nat) (I : Nat → Nat → Int32) (F : Nat → Nat), k + q = NH → q < fu → MI (tf f) (Xf I0) (Hf I0) (nrf f) k F → mdS I0 I f (2 ^ nrf f) → mdF I 211 F (2 ^ nrf f) →
    ∃ I' F', bb_X12_fewestHosts_173 fu 200 (nI (nrf f)) (nI k) (S0, I, jr J f, x) = some (nI (F' (fl (nrf f))), (S0, I', jr J f, x)) ∧ mdS I0 I' f (2 ^ nrf f) ∧ MI (tf f) (Xf I0) (Hf I0) (nrf f) NH F' := by
  have hn := nrf_le (f := f)
  have h4 := fl_4096 hn
  have h8 := hc.2.1
  have hpos := Nat.two_pow_pos (nrf f)
  intro q
  induction q with
  | zero =>
    intro fu k I F e1 e2 hM hS hF
    obtain ⟨fu, rfl⟩ : ∃ z, fu = z + 1 := ⟨fu - 1, by omega⟩
    have ek : k = NH := by omega
    subst ek
    have e0 : I 202 0 = nI k := by rw [hS.1 202 (by omega)]; exact hc.1.1
    have hfl : fl (nrf f) < 2 ^ nrf f := fl_lt (fun _ h => h)
    refine ⟨I, F, ?_, hS, hM⟩
    rw [bb_X12_fewestHosts_173, m_R2, ob_s, m_to0, ob_s, e0, if_pos (le_self _), m_R22, ob_s, li_sh13 _ (by omega), li_n 1, pk_sub (by omega), op_ld sh_209 rfl (show 2 ^ nrf f - 1 < 4096 by omega) (by omega), ob_s, hF (2 ^ nrf f - 1) (by omega)]
  | succ q ih =>
    intro fu k I F e1 e2 hM hS hF
    obtain ⟨fu, rfl⟩ : ∃ z, fu = z + 1 := ⟨fu - 1, by omega⟩
    have e0 : I 202 0 = nI NH := by rw [hS.1 202 (by omega)]; exact hc.1.1
    obtain ⟨I2, F2, r1, r2, r3, r4⟩ := @m_addsHost I I0 J x NH NY NE NR f hc hg hw k F (by omega) hM hS hF
    obtain ⟨I3, F3, s1, s2, s3⟩ := ih fu (k + 1) I2 F2 (by omega) (by omega) r4 r2 r3
    refine ⟨I3, F3, ?_, s2, s3⟩
    rw [bb_X12_fewestHosts_173, m_R2, ob_s, m_to0, ob_s, e0, if_neg (by rw [li_le (by omega) (by omega)]; omega), m_rc, ob_s, r1, ob_s, nI_1]
    exact s1
theorem m_fewest (hc : mc I NH NY NE NR) (hg : mrg I NH NY NE NR) (hw : wff I NH NY NE f) (z0 : I 213 0 = 0) (z1 : I 214 0 = 0) :
    ∃ I' F, dd_X12_fewestHosts 200 (S0, I, jr J f, x) = some (nI (F (fl (nrf f))), (S0, I', jr J f, x)) ∧ (∀ r, r < 211 ∨ 215 ≤ r → I' r = th I 0 r) ∧ (I' 213 0 = 0 ∧ I' 214 0 = 0) ∧ MI (tf f) (Xf I) (Hf I) (nrf f) NH F := by
  have hn := nrf_le (f := f)
  have h4 := fl_4096 hn
  have hpos := Nat.two_pow_pos (nrf f)
  have s3 : sam 201 207 I (th I 0) := th_sam (by omega)
  have eX : Xf (th I 0) = Xf I := by
    funext t w
    unfold Xf tN mt
    rw [s3 204 (by omega) (by omega)]
  have eH : Hf (th I 0) = Hf I := by
    funext t w
    unfold Hf hN mh
    rw [s3 203 (by omega) (by omega)]
  have hc' := mc_sam hc s3
  have hg' := mrg_sam hg s3
  have hw' := wff_sam hw s3
  obtain ⟨I1, n', a1, a2⟩ := @m_sums (th I 0) J x NH NY NE NR f hc' hg' hw' 12 ab_fu 0 (th I 0) (by omega) (ab_fu_big (by omega)) ⟨fun _ _ => rfl, fun s hs => by
    have es : s = 0 := by
      have : 2 ^ cn (rn f) 0 = 1 := rfl
      omega
    rw [es, smt_0, smt_0, th_off _ (by omega), th_off _ (by omega), z0, z1]
    exact ⟨rfl, rfl⟩⟩
  have loop : ∀ (q fu t : Nat) (I2 : Nat → Nat → Int32), t + q = 2 ^ nrf f → q < fu → (∀ r, r ≠ 211 → I2 r = I1 r) → mdF I2 211 (fun s => if s = 0 then 0 else 1000) t → ∃ I3, bb_X12_fewestHosts_127 fu 200 (nI (nrf f)) (nI t) (S0, I2, jr J f, x) = bb_X12_fewestHosts_173 ab_fu 200 (nI (nrf f)) 0 (S0, ab_u (ab_u I3 213 0 0) 214 0 0, jr J f, x) ∧ (∀ r, r ≠ 211 → I3 r = I1 r) ∧ mdF I3 211 (fun s => if s = 0 then 0 else 1000) (2 ^ nrf f) := by
    intro q
    induction q with
    | zero =>
      intro fu t I2 e1 e2 e3 e4
      obtain ⟨fu, rfl⟩ : ∃ z, fu = z + 1 := ⟨fu - 1, by omega⟩
      refine ⟨I2, ?_, e3, by rw [show 2 ^ nrf f = t by omega]; exact e4⟩
      rw [bb_X12_fewestHosts_127, li_sh13 _ (by omega), if_pos (by rw [li_le (by omega) (by omega)]; omega), m_R24, ob_s, op_st _ sh_211 li_0 (by omega) (by omega), ob_s, m_R25, ob_s, op_st _ sh_212 li_0 (by omega) (by omega), ob_s]
    | succ q ih =>
      intro fu t I2 e1 e2 e3 e4
      obtain ⟨fu, rfl⟩ : ∃ z, fu = z + 1 := ⟨fu - 1, by omega⟩
      have go : ∀ v : Int32, v = nI (if t = 0 then 0 else 1000) → ∃ I3, bb_X12_fewestHosts_150 (bb_X12_fewestHosts_127 fu) 200 (nI (nrf f)) (nI t) 211 (nI t) v (S0, I2, jr J f, x) = bb_X12_fewestHosts_173 ab_fu 200 (nI (nrf f)) 0 (S0, ab_u (ab_u I3 213 0 0) 214 0 0, jr J f, x) ∧ (∀ r, r ≠ 211 → I3 r = I1 r) ∧ mdF I3 211 (fun s => if s = 0 then 0 else 1000) (2 ^ nrf f) := by
        intro v hv
        rw [bb_X12_fewestHosts_150, op_st _ sh_209 rfl (by omega) (by omega), ob_s, nI_1]
        refine ih fu (t + 1) _ (by omega) (by omega) (fun r hr => by rw [u_r hr]; exact e3 r hr) (fun s hs => ?_)
        by_cases e : s = t
        · rw [e, u_e]; exact hv
        · rw [u_k e]; exact e4 s (by omega)
      rw [bb_X12_fewestHosts_127, li_sh13 _ (by omega), if_neg (by rw [li_le (by omega) (by omega)]; omega), m_R22, ob_s]
      by_cases e : t = 0
      · rw [if_pos (by rw [e]; rfl)]
        exact go 0 (by rw [if_pos e]; rfl)
      · rw [if_neg (by rw [li_0, li_eq (by omega) (by omega)]; exact e)]
        exact go 1000 (by rw [if_neg e]; rfl)
  obtain ⟨I3, b1, b2, b3⟩ := loop (2 ^ nrf f) (n' + 5000) 0 I1 (by omega) (by omega) (fun _ _ => rfl) (fun s hs => by omega)
  have hS3 : mdS (th I 0) (ab_u (ab_u I3 213 0 0) 214 0 0) f (2 ^ nrf f) := by
    refine ⟨fun r hr => by rw [u_r (by omega), u_r (by omega), b2 r (by omega)]; exact a2.1 r hr, fun s hs => ?_⟩
    by_cases e : s = 0
    · rw [e, u_e, u_r (by omega), u_e, smt_0, smt_0]; exact ⟨rfl, rfl⟩
    · rw [u_r (by omega), u_k e, u_k e, u_r (by omega), b2 213 (by omega), b2 214 (by omega)]; exact a2.2 s hs
  have hF3 : mdF (ab_u (ab_u I3 213 0 0) 214 0 0) 211 (fun s => if s = 0 then 0 else 1000) (2 ^ nrf f) := fun s hs => by
    rw [u_r (by omega), u_r (by omega)]; exact b3 s hs
  obtain ⟨I4, F, d1, d2, d3⟩ := @m_hostLoop (th I 0) J x NH NY NE NR f hc' hg' hw' NH ab_fu 0 _ _ (by omega) (ab_fu_big (by have := hc.2.1; omega)) (MI_start (ta := tf f) (X := Xf (th I 0)) (H := Hf (th I 0)) (n := nrf f) (F := fun s => if s = 0 then 0 else 1000) rfl (fun s _ hs => if_neg hs)) hS3 hF3
  refine ⟨I4, F, ?_, d2.1, ?_, ?_⟩
  · unfold dd_X12_fewestHosts
    rw [m_P0, ob_s]
    exact a1.trans (b1.trans d1)
  · have q := d2.2 0 hpos
    rw [smt_0, smt_0] at q
    exact q
  · rw [eX, eH] at d3
    exact d3
theorem c_R6 : ab_fR (S0, I, J, x) 11 0 6 = some 180 := op_fR okC rfl
theorem kp_pk (h : kp I I') (o : ∀ r, r < 181 ∨ 192 ≤ r → I2 r = I' r) (hT : tI I2 183 729 2) : kp I I2 := by
  obtain ⟨k1, k2, k3, k4, k5, k6, k7, k8, k9⟩ := h
  refine ⟨fun r q1 q2 q3 => (o r (by omega)).trans (k1 r q1 q2 q3), ?_, ?_, hT, ?_, fun r q1 q2 => (o r (by omega)).trans (k6 r q1 q2), (o 219 (by omega)).trans k7, fun q q1 q2 => by rw [o 200 (by omega)]; exact k8 q q1 q2, by rw [o 213 (by omega)]; exact k9.1, by rw [o 214 (by omega)]; exact k9.2⟩
  · unfold siI tI at k2 ⊢
    rw [o (42 + 1) (by omega), o (42 + 3) (by omega), o (42 + 5) (by omega), o (42 + 7) (by omega)]
    exact k2
  · unfold bI tI at k3 ⊢
    rw [o 176 (by omega), o 178 (by omega)]
    exact k3
  · unfold tP tI at k5 ⊢
    rw [o 198 (by omega), o 193 (by omega)]
    exact k5
theorem kp_md (h : kp I I') (o : ∀ r, r < 211 ∨ 215 ≤ r → I2 r = I' r) (z : zr I I2) : kp I I2 := by
  obtain ⟨k1, k2, k3, k4, k5, k6, k7, k8, k9⟩ := h
  refine ⟨fun r q1 q2 q3 => (o r (by omega)).trans (k1 r q1 q2 q3), ?_, ?_, ?_, ?_, fun r q1 q2 => (o r (by omega)).trans (k6 r q1 q2), (o 219 (by omega)).trans k7, fun q q1 q2 => by rw [o 200 (by omega)]; exact k8 q q1 q2, z⟩
  · unfold siI tI at k2 ⊢
    rw [o (42 + 1) (by omega), o (42 + 3) (by omega), o (42 + 5) (by omega), o (42 + 7) (by omega)]
    exact k2
  · unfold bI tI at k3 ⊢
    rw [o 176 (by omega), o 178 (by omega)]
    exact k3
  · unfold tI at k4 ⊢
    rw [o 183 (by omega)]
    exact k4
  · unfold tP tI at k5 ⊢
    rw [o 198 (by omega), o 193 (by omega)]
    exact k5
theorem a_fewest (hi : Inv I J) : Cal0 (dd_X11_fewestHosts 0) (dd_X12_fewestHosts 200) I J x := by
  obtain ⟨NH, NY, NE, NR, f, u, tp, H, b, S, w, c, m, rd⟩ := id hi
  obtain ⟨hc, hg, hl, hm⟩ := id w
  obtain ⟨I1, v, e1, o1, t1, v0, v1⟩ := @c_fewest I J x NH NY NE NR f hc hg hl c.1.2.1 c.1.1 c.2.1.2.2.2.1
  have s1 : sam 201 207 I I1 := fun r a e => o1 r (by omega)
  obtain ⟨I2, F, e2, o2, z2, mi⟩ := @m_fewest I1 J x NH NY NE NR f (mc_sam hc s1) (mrg_sam hg s1) (wff_sam c.1.2.1 s1) (by rw [o1 213 (by omega)]; exact rd.1.1) (by rw [o1 214 (by omega)]; exact rd.1.2)
  have hj : jr J f = J := by
    have := jr_id J
    rw [m.1] at this
    exact this
  have eX : Xf I1 = Xf I := by
    funext t w
    unfold Xf tN mt
    rw [s1 204 (by omega) (by omega)]
  have eH : Hf I1 = Hf I := by
    funext t w
    unfold Hf hN mh
    rw [s1 203 (by omega) (by omega)]
  rw [eX, eH] at mi
  rw [hj] at e2
  have ev : v = F (fl (nrf f)) := by
    by_cases hz : nrf f = 0
    · rw [v0 hz]
      have r0 : RM (fitS (tf f) (Xf I) (Hf I)) NH 0 0 := RM_mono (k := 0) ⟨rfl, rfl⟩ (by omega)
      have ef : fl (nrf f) = 0 := by rw [hz]
      have := mi.2 0 0 (Nat.two_pow_pos _) r0
      rw [ef]; omega
    · obtain ⟨G, g1, g2⟩ := v1 hz
      rw [g2]
      exact CI_MI g1 mi
  refine ⟨nI v, I1, J, I2, J, ?_, ?_, ?_⟩
  · unfold dd_X11_fewestHosts
    rw [c_R6, ob_s, c_R1, ob_s, c_R2, ob_s, p_rc, ob_s, e1, ob_s]
  · rw [e2, ev]
  · refine Inv_kp hi (kp_md (kp_th (kp_pk (kp_refl c.2.1) o1 t1) 0) o2 ⟨?_, ?_⟩) kpJ_refl
    · rw [z2.1]; exact rd.1.1.symm
    · rw [z2.2]; exact rd.1.2.symm
end PN
