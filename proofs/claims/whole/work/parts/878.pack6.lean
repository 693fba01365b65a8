/-! ===== the fewest hosts: the reference ===== -/
theorem el_cn {p : Nat → Bool} : ∀ {k j : Nat}, j < cn p k → cn p (el p k j) = j
  | 0, j, h => by cases h
  | k + 1, j, h => by
    rw [cn] at h
    rw [el]
    cases hp : p k with
    | false =>
      rw [hp] at h
      simp only [Bool.false_eq_true, if_false, Nat.add_zero] at h ⊢
      exact el_cn h
    | true =>
      rw [hp] at h
      simp only [if_true] at h ⊢
      by_cases e : j = cn p k
      · rw [if_pos e, e]
      · rw [if_neg e]
        exact el_cn (by omega)
theorem el_at {p : Nat → Bool} {j : Nat} (hp : p j = true) (hj : j < 12) : el p 12 (cn p j) = j := by
  have h1 := cn_str hp
  have h2 := cn_mo p (show j + 1 ≤ 12 by omega)
  have e := el_is (p := p) (k := 12) (j := cn p j) (by omega)
  exact cn_in e.2 hp (el_cn (by omega))
theorem li_sh13 : ∀ j, j < 13 → (1 : Int32) <<< (nI j &&& 31) = nI (2 ^ j) := by decide
theorem li_rst {a b : Nat} (ha : a < 4096) : nI a &&& (nI b ^^^ (-1 : Int32)) = nI (rst a b) := by
  unfold rst
  apply Int32.toBitVec_inj.mp
  show BitVec.ofNat 32 a &&& (BitVec.ofNat 32 b ^^^ BitVec.allOnes 32) = BitVec.ofNat 32 (bs (fun j => a.testBit j && !b.testBit j) 12)
  apply BitVec.eq_of_getLsbD_eq
  intro i hi
  rw [BitVec.getLsbD_and, BitVec.getLsbD_xor, BitVec.getLsbD_ofNat, BitVec.getLsbD_ofNat, BitVec.getLsbD_ofNat, bs_bit, BitVec.getLsbD_allOnes]
  simp only [hi, decide_true, Bool.true_and, Bool.xor_true]
  by_cases h12 : i < 12
  · simp [h12]
  · have : a.testBit i = false := by
      cases q : a.testBit i with
      | false => rfl
      | true => exact absurd (bit_lt ha q) h12
    simp [this, h12]
theorem p2_add {s p : Nat} (h : s < 2 ^ p) : s ||| 2 ^ p = 2 ^ p + s := by
  rw [Nat.or_comm]
  have := Nat.two_pow_add_eq_or_of_lt h 1
  rw [Nat.mul_one] at this
  exact this.symm
section PM
variable {I I' I0 I1 I2 I3 I4 : Nat → Nat → Int32} {J J' J1 J2 J3 J4 : Nat → Nat → Int64} {x : Nat} {NH NY NE NR s d u tp u' tp' n : Nat} {f g f' : Nat → Int64} {L st ta : Nat → Nat}
theorem sh_209 : S0[211]? = some (1, 4096, []) := rfl
theorem sh_210 : S0[212]? = some (1, 4096, []) := rfl
theorem sh_211 : S0[213]? = some (1, 4096, []) := rfl
theorem sh_212 : S0[214]? = some (1, 4096, []) := rfl
theorem m_R22 : ab_fR (S0, I, J, x) 12 200 22 = some 211 := fR_X12_22 okM
theorem m_R23 : ab_fR (S0, I, J, x) 12 200 23 = some 212 := fR_X12_23 okM
theorem m_R24 : ab_fR (S0, I, J, x) 12 200 24 = some 213 := fR_X12_24 okM
theorem m_R25 : ab_fR (S0, I, J, x) 12 200 25 = some 214 := fR_X12_25 okM
def gw (I : Nat → Nat → Int32) (f : Nat → Int64) (w j : Nat) : Nat := tN I (tf f j) w
/-- the sums of the first sets are there -/
def mdS (I0 I : Nat → Nat → Int32) (f : Nat → Int64) (m : Nat) : Prop := (∀ r, r < 211 ∨ 215 ≤ r → I r = I0 r) ∧ ∀ s, s < m → I 213 s = nI (smt (gw I0 f 0) s) ∧ I 214 s = nI (smt (gw I0 f 1) s)
def mdF (I : Nat → Nat → Int32) (r : Nat) (F : Nat → Nat) (m : Nat) : Prop := ∀ s, s < m → I r s = nI (F s)
theorem m_sums (hc : mc I0 NH NY NE NR) (hg : mrg I0 NH NY NE NR) (hw : wff I0 NH NY NE f) : ∀ (q fu j : Nat) (I : Nat → Nat → Int32), j + q = 12 → q < fu → mdS I0 I f (2 ^ cn (rn f) j) → ∃ I' n', bb_X12_fewestHosts_9 fu 200 (nI (cn (rn f) j)) (nI j) (S0, I, jr J f, x) = bb_X12_fewestHosts_127 (n' + 5000) 200 (nI (nrf f)) 0 (S0, I', jr J f, x) ∧ mdS I0 I' f (2 ^ nrf f) := by
  have h6 := hc.2.2.1
  intro q
  induction q with
  | zero =>
    intro fu j I e1 e2 hS
    obtain ⟨fu, rfl⟩ : ∃ z, fu = z + 1 := ⟨fu - 1, by omega⟩
    have ej : j = 12 := by omega
    subst ej
    refine ⟨I, ab_fu - 5000, ?_, hS⟩
    rw [bb_X12_fewestHosts_9, if_pos li_12e]
    rfl
  | succ q ih =>
    intro fu j I e1 e2 hS
    obtain ⟨fu, rfl⟩ : ∃ z, fu = z + 1 := ⟨fu - 1, by omega⟩
    have hj : j < 12 := by omega
    have hcn := cn_le (rn f) j
    rw [bb_X12_fewestHosts_9, if_neg (li_12 hj), m_rc, ob_s, m_runsJ hj, ob_s]
    cases hrn : rn f j with
    | false =>
      have ec : cn (rn f) (j + 1) = cn (rn f) j := by rw [cn, hrn]; rfl
      simp only [Bool.false_eq_true, if_false, if_true]
      rw [bb_X12_fewestHosts_119, nI_1]
      have z := ih fu (j + 1) I (by omega) (by omega) (by rw [ec]; exact hS)
      rw [ec] at z
      exact z
    | true =>
      simp only [if_true]
      have ec : cn (rn f) (j + 1) = cn (rn f) j + 1 := cn_str hrn
      have wi := hw.2.2.1 j hj hrn
      have hty : ty f j < NY := wi.2.1.2
      have ety : (vi f j 1).toInt32 = nI (ty f j) := isn_32 wi.2.1
      have t0 := (tN_is hg hty (show 0 < 2 by omega)).1
      have t1 := (tN_is hg hty (show 1 < 2 by omega)).1
      have gj : ∀ w, gw I0 f w (cn (rn f) j) = tN I0 (ty f j) w := fun w => by
        unfold gw tf
        rw [el_at hrn hj]
      have p12 : cn (rn f) j < 12 := by omega
      have hp : 2 ^ cn (rn f) j ≤ 2 ^ 11 := Nat.pow_le_pow_right (by omega) (by omega)
      have h2 : 2 ^ (cn (rn f) j + 1) = 2 ^ cn (rn f) j * 2 := Nat.pow_succ _ _
      -- the sets with the new one
      have inner : ∀ (k m t : Nat) (I1 : Nat → Nat → Int32), t + k = 2 ^ cn (rn f) j → k < m → mdS I0 I1 f (2 ^ cn (rn f) j + t) → ∃ I2, bb_X12_fewestHosts_25 (bb_X12_fewestHosts_9 fu) m 200 (nI (cn (rn f) j)) (nI j) (nI t) (S0, I1, jr J f, x) = bb_X12_fewestHosts_9 fu 200 (nI (cn (rn f) (j + 1))) (nI (j + 1)) (S0, I2, jr J f, x) ∧ mdS I0 I2 f (2 ^ cn (rn f) (j + 1)) := by
        intro k
        induction k with
        | zero =>
          intro m t I1 a1 a2 hS1
          obtain ⟨m, rfl⟩ : ∃ z, m = z + 1 := ⟨m - 1, by omega⟩
          refine ⟨I1, ?_, ?_⟩
          · rw [bb_X12_fewestHosts_25, li_sh1 _ p12, if_pos (by rw [li_le (by omega) (by omega)]; omega), bb_X12_fewestHosts_119, nI_1, nI_1, ec]
          · rw [ec, h2, show 2 ^ cn (rn f) j * 2 = 2 ^ cn (rn f) j + t by omega]
            exact hS1
        | succ k ihk =>
          intro m t I1 a1 a2 hS1
          obtain ⟨m, rfl⟩ : ∃ z, m = z + 1 := ⟨m - 1, by omega⟩
          have htp : t < 2 ^ cn (rn f) j := by omega
          have hor : t ||| 2 ^ cn (rn f) j = 2 ^ cn (rn f) j + t := p2_add htp
          have htb : t.testBit (cn (rn f) j) = false := Nat.testBit_lt_two_pow htp
          have hix : 2 ^ cn (rn f) j + t < 4096 := by omega
          have c0 : I1 213 t = nI (smt (gw I0 f 0) t) := (hS1.2 t (by omega)).1
          have c1 : I1 214 t = nI (smt (gw I0 f 1) t) := (hS1.2 t (by omega)).2
          have sm : ∀ w, smt (gw I0 f w) (2 ^ cn (rn f) j + t) = smt (gw I0 f w) t + tN I0 (ty f j) w := fun w => by
            rw [← hor, smt_or p12 htb, gj]
          have e202 : ∀ w, mt I1 (ty f j) w = mt I0 (ty f j) w := fun w => by
            unfold mt
            rw [hS1.1 204 (by omega)]
          have fin : ∀ v0 v1 : Int32, v0 = nI (smt (gw I0 f 0) (2 ^ cn (rn f) j + t)) → v1 = nI (smt (gw I0 f 1) (2 ^ cn (rn f) j + t)) → mdS I0 (ab_u (ab_u I1 213 (2 ^ cn (rn f) j + t) v0) 214 (2 ^ cn (rn f) j + t) v1) f (2 ^ cn (rn f) j + (t + 1)) := by
            intro v0 v1 h0 h1
            refine ⟨fun r hr => by rw [u_r (by omega), u_r (by omega)]; exact hS1.1 r hr, fun s hs => ?_⟩
            by_cases e : s = 2 ^ cn (rn f) j + t
            · rw [e, u_e, u_r (by omega), u_e]; exact ⟨h0, h1⟩
            · rw [u_r (by omega), u_k e, u_k e, u_r (by omega)]; exact hS1.2 s (by omega)
          -- one round
          have rnd : ∃ I2, bb_X12_fewestHosts_25 (bb_X12_fewestHosts_9 fu) (m + 1) 200 (nI (cn (rn f) j)) (nI j) (nI t) (S0, I1, jr J f, x) = bb_X12_fewestHosts_25 (bb_X12_fewestHosts_9 fu) m 200 (nI (cn (rn f) j)) (nI j) (nI (t + 1)) (S0, I2, jr J f, x) ∧ mdS I0 I2 f (2 ^ cn (rn f) j + (t + 1)) := by
            have tl : ∀ (v : Int32), v = nI (smt (gw I0 f 0) t) → ∃ I2, bb_X12_fewestHosts_55 (bb_X12_fewestHosts_9 fu) (bb_X12_fewestHosts_25 (bb_X12_fewestHosts_9 fu) m) 200 (nI (cn (rn f) j)) (nI j) (nI t) 213 (nI t ||| nI (2 ^ cn (rn f) j)) v (S0, I1, jr J f, x) = bb_X12_fewestHosts_25 (bb_X12_fewestHosts_9 fu) m 200 (nI (cn (rn f) j)) (nI j) (nI (t + 1)) (S0, I2, jr J f, x) ∧ mdS I0 I2 f (2 ^ cn (rn f) j + (t + 1)) := by
              intro v hv
              have tl2 : ∀ (I3 : Nat → Nat → Int32) (v : Int32), I3 204 = I1 204 → v = nI (smt (gw I0 f 1) t) → bb_X12_fewestHosts_93 (bb_X12_fewestHosts_9 fu) (bb_X12_fewestHosts_25 (bb_X12_fewestHosts_9 fu) m) 200 (nI (cn (rn f) j)) (nI j) (nI t) 214 (nI t ||| nI (2 ^ cn (rn f) j)) v (S0, I3, jr J f, x) = bb_X12_fewestHosts_25 (bb_X12_fewestHosts_9 fu) m 200 (nI (cn (rn f) j)) (nI j) (nI (t + 1)) (S0, ab_u I3 214 (2 ^ cn (rn f) j + t) (nI (smt (gw I0 f 1) (2 ^ cn (rn f) j + t))), jr J f, x) := by
                intro I3 v h3 hv
                have e3 : mt I3 (ty f j) 1 = nI (tN I0 (ty f j) 1) := by
                  have : mt I3 (ty f j) 1 = mt I1 (ty f j) 1 := by unfold mt; rw [h3]
                  rw [this, e202, t1]
                rw [bb_X12_fewestHosts_93, m_R4, ob_s, m_rc, ob_s, m_its1J hj, ob_s, ety, m_t1 (by omega), ob_s, e3, hv, li_add, ← sm, li_or, hor, op_st _ sh_212 rfl hix (by omega), ob_s, nI_1]
              rw [bb_X12_fewestHosts_55, m_R4, ob_s, m_rc, ob_s, m_its1J hj, ob_s, ety, m_t0 (by omega), ob_s, e202, t0, hv, li_add, ← sm, li_or, hor, op_st _ sh_211 rfl hix (by omega), ob_s, m_R25, ob_s]
              refine ⟨_, ?_, fin _ _ rfl rfl⟩
              by_cases ez : nI (cn (rn f) j) = 0
              · rw [if_pos ez, li_sh1 _ p12]
                have z0 : cn (rn f) j = 0 := by
                  rw [li_0, li_eq (by omega) (by omega)] at ez
                  exact ez
                have tz : t = 0 := by
                  rw [z0] at htp
                  omega
                exact tl2 _ 0 (u_r (by omega)) (by rw [tz, smt_0]; rfl)
              · rw [if_neg ez, ob_s, op_ld sh_212 rfl (by omega) (by omega), ob_s, li_sh1 _ p12, u_r (by omega), c1]
                exact tl2 _ _ (u_r (by omega)) rfl
            rw [bb_X12_fewestHosts_25, li_sh1 _ p12, if_neg (by rw [li_le (by omega) (by omega)]; omega), m_R24, ob_s]
            by_cases ez : nI (cn (rn f) j) = 0
            · have z0 : cn (rn f) j = 0 := by
                rw [li_0, li_eq (by omega) (by omega)] at ez
                exact ez
              have tz : t = 0 := by
                rw [z0] at htp
                omega
              rw [if_pos ez]
              exact tl 0 (by rw [tz, smt_0]; rfl)
            · rw [if_neg ez, ob_s, op_ld sh_211 rfl (by omega) (by omega), ob_s, c0]
              exact tl _ rfl
          obtain ⟨I2, r1, r2⟩ := rnd
          obtain ⟨I3, s1, s2⟩ := ihk m (t + 1) I2 (by omega) (by omega) r2
          exact ⟨I3, r1.trans s1, s2⟩
      obtain ⟨I2, r1, r2⟩ := inner (2 ^ cn (rn f) j) ab_fu 0 I (by omega) (ab_fu_big (by omega)) hS
      obtain ⟨I3, n', s1, s2⟩ := ih fu (j + 1) I2 (by omega) (by omega) r2
      rw [if_neg n10]
      exact ⟨I3, n', r1.trans s1, s2⟩
end PM
