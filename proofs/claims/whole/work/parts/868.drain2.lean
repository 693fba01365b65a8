/-! ===== draining a host: the class's search ===== -/
section DC
variable {I I' I0 I1 I2 I3 I4 : Nat → Nat → Int32} {J J' J1 J2 J3 J4 : Nat → Nat → Int64} {x : Nat} {NH NY NE NR s d u tp u' tp' : Nat} {f g f' : Nat → Int64} {H S H' : Nat → Nat → Int64} {b : Nat → Bool}
theorem okD : ok_X2 195 := rfl
theorem sh_194 : S0[196]? = some (1, 5, []) := rfl
theorem sh_195 : S0[197]? = some (1, 5, []) := rfl
theorem tbR : tb 198 8 2 := ⟨rfl, rfl, by decide, by decide⟩
def rmC (I : Nat → Nat → Int32) (NH : Nat) (R : Nat → Nat → Nat) : Prop := ∀ k, k < NH → ∀ w, w < 2 → I 199 (k * 2 + w) = nI (R k w)
def mvs (I : Nat → Nat → Int32) (on : Nat → Bool) : Prop := I 195 2 = nI (cn on 12) ∧ ∀ i, i < 12 → on i = true → I 196 (cn on i) = nI i
def plR (I : Nat → Nat → Int32) (on : Nat → Bool) (NH k : Nat) (R : Nat → Nat → Nat) (A : Option (Nat → Nat)) (J : Nat → Nat → Int64) (x : Nat) (res : Option (Int32 × ab_Mm)) : Prop :=
  ∃ I', res = some (if A.isSome then 1 else 0, (S0, I', J, x)) ∧ (∀ r, r ≠ 197 → r ≠ 199 → I' r = I r) ∧ (∀ q, q < cn on (12 - k) → I' 197 q = I 197 q) ∧ (A = none → rmC I' NH R) ∧ (∀ B, A = some B → ∀ i, 12 - k ≤ i → i < 12 → on i = true → I' 197 (cn on i) = nI (B i))
theorem c_place (hc : mc I0 NH NY NE NR) (hg : mrg I0 NH NY NE NR) (hl : clR I0 NH NY NE NR) (hw : wff I0 NH NY NE f) (hr : sr I0 NY 32 f) {on : Nat → Bool} (h5 : cn on 12 ≤ 5) (hon : ∀ i, i < 12 → on i = true → rn f i = true) : ∀ (k n : Nat) (I : Nat → Nat → Int32) (R : Nat → Nat → Nat), k ≤ 12 → k < n → (∀ r, r < 195 ∨ 200 ≤ r → I r = I0 r) → mvs I on → tI I 198 8 2 → rmC I NH R → (∀ k, k < NH → ∀ w, w < 2 → R k w ≤ 256) →
    plR I on NH k R (drF on (tyT I0 f) NH k R) J x (dd_X2_place n 195 18 32 (nI (cn on (12 - k))) (S0, I, J, x)) := by
  have h8 := hc.2.1
  have h6 := hc.2.2.1
  intro k
  induction k with
  | zero =>
    intro n I R hk hn hI hm hT hR hB
    obtain ⟨n, rfl⟩ : ∃ z, n = z + 1 := ⟨n - 1, by omega⟩
    refine ⟨I, ?_, fun _ _ _ => rfl, fun _ _ => rfl, (fun q => by cases q), fun B _ i h1 h2 => by omega⟩
    show st_X2_place (dd_X2_place n) 195 18 32 (nI (cn on 12)) (S0, I, J, x) = _
    unfold st_X2_place
    rw [if_neg (li_pos (by omega)), fI_X2_2 okD, ob_s, hm.1, if_pos (le_self _)]
    rfl
  | succ k ih =>
    intro n I R hk hn hI hm hT hR hB
    obtain ⟨n, rfl⟩ : ∃ z, n = z + 1 := ⟨n - 1, by omega⟩
    have ei : 12 - (k + 1) = 11 - k := by omega
    have hi : 11 - k < 12 := by omega
    rw [ei, drF]
    cases ho1 : on (11 - k) with
    | false =>
      have ec : cn on (11 - k) = cn on (12 - k) := by
        rw [show 12 - k = (11 - k) + 1 by omega, cn, ho1]
        rfl
      simp only [Bool.false_eq_true, if_false]
      obtain ⟨I', r1, r2, r3, r4, r5⟩ := ih (n + 1) I R (by omega) (by omega) hI hm hT hR hB
      rw [ec]
      refine ⟨I', r1, r2, fun q hq => r3 q (by rw [ei] at hq; omega), r4, fun B hB i h1 h2 h3 => ?_⟩
      by_cases q : i = 11 - k
      · rw [q, ho1] at h3; cases h3
      · exact r5 B hB i (by omega) h2 h3
    | true =>
      simp only [if_true]
      have ec : cn on (12 - k) = cn on (11 - k) + 1 := by rw [show 12 - k = (11 - k) + 1 by omega, cn_str ho1]
      have hlt : cn on (11 - k) < cn on 12 := by
        have := cn_mo on (show 12 - k ≤ 12 by omega)
        omega
      have hrn := hon _ hi ho1
      have wi := hw.2.2.1 _ hi hrn
      have hty : ty f (11 - k) < NY := wi.2.1.2
      have tq0 := tN_is hg hty (show 0 < 2 by omega)
      have tq1 := tN_is hg hty (show 1 < 2 by omega)
      have loop : ∀ (q m j : Nat) (I1 : Nat → Nat → Int32), j + q = NH → q < m → (∀ r, r ≠ 197 → r ≠ 199 → I1 r = I r) → (∀ z, z < cn on (11 - k) → I1 197 z = I 197 z) → rmC I1 NH R →
          ∃ I', bb_X2_place_81 (dd_X2_place n) m 195 18 32 (nI (cn on (11 - k))) 198 (nI (tyT I0 f (11 - k) 0)) (nI (tyT I0 f (11 - k) 1)) (nI j) (S0, I1, J, x) = some (if (fsm (fun h => if tyT I0 f (11 - k) 0 ≤ R h 0 ∧ tyT I0 f (11 - k) 1 ≤ R h 1 then (drF on (tyT I0 f) NH k (subR R h (tyT I0 f (11 - k)))).map (fun A => updN A (11 - k) h) else none) j q).isSome then 1 else 0, (S0, I', J, x)) ∧ (∀ r, r ≠ 197 → r ≠ 199 → I' r = I r) ∧ (∀ z, z < cn on (11 - k) → I' 197 z = I 197 z) ∧ (fsm (fun h => if tyT I0 f (11 - k) 0 ≤ R h 0 ∧ tyT I0 f (11 - k) 1 ≤ R h 1 then (drF on (tyT I0 f) NH k (subR R h (tyT I0 f (11 - k)))).map (fun A => updN A (11 - k) h) else none) j q = none → rmC I' NH R) ∧ (∀ B, fsm (fun h => if tyT I0 f (11 - k) 0 ≤ R h 0 ∧ tyT I0 f (11 - k) 1 ≤ R h 1 then (drF on (tyT I0 f) NH k (subR R h (tyT I0 f (11 - k)))).map (fun A => updN A (11 - k) h) else none) j q = some B → ∀ i, 11 - k ≤ i → i < 12 → on i = true → I' 197 (cn on i) = nI (B i)) := by
        intro q
        induction q with
        | zero =>
          intro m j I1 h1 h2 o1 o2 o3
          obtain ⟨m, rfl⟩ : ∃ z, m = z + 1 := ⟨m - 1, by omega⟩
          have e0 : I1 (18 + 1) 3 = nI NH := by rw [o1 (18 + 1) (by omega) (by omega), hI (18 + 1) (by omega)]; exact hl.2.1.1
          refine ⟨I1, ?_, o1, o2, fun _ => o3, fun B hB => by cases hB⟩
          rw [bb_X2_place_81, fR_X1_0 cl17.1, ob_s, fI_X10_3 cl17.2.1.1, ob_s, e0, if_pos (by rw [li_le (by omega) (by omega)]; omega)]
          rfl
        | succ q ihq =>
          intro m j I1 h1 h2 o1 o2 o3
          obtain ⟨m, rfl⟩ : ∃ z, m = z + 1 := ⟨m - 1, by omega⟩
          have hjN : j < NH := by omega
          have e0 : I1 (18 + 1) 3 = nI NH := by rw [o1 (18 + 1) (by omega) (by omega), hI (18 + 1) (by omega)]; exact hl.2.1.1
          have tI1 : tI I1 198 8 2 := by
            unfold tI at hT ⊢
            rw [o1 198 (by omega) (by omega)]
            exact hT
          have g0 : dd_X10_get 198 (nI j) 0 (S0, I1, J, x) = some (nI (R j 0), (S0, I1, J, x)) := by
            have q := tb_get (J := J) (x := x) tbR tI1 (row := nI j) (col := 0) rfl li_0 (show j < 8 by omega) (by omega)
            rw [show I1 (198 + 1) (j * 2 + 0) = nI (R j 0) from o3 j hjN 0 (by omega)] at q
            exact q
          have g1 : dd_X10_get 198 (nI j) 1 (S0, I1, J, x) = some (nI (R j 1), (S0, I1, J, x)) := by
            have q := tb_get (J := J) (x := x) tbR tI1 (row := nI j) (col := 1) rfl (li_n 1) (show j < 8 by omega) (by omega)
            rw [show I1 (198 + 1) (j * 2 + 1) = nI (R j 1) from o3 j hjN 1 (by omega)] at q
            exact q
          have b0 := hB j hjN 0 (by omega)
          have b1 := hB j hjN 1 (by omega)
          have u0 : tyT I0 f (11 - k) 0 ≤ 256 := tq0.2.2
          have u1 : tyT I0 f (11 - k) 1 ≤ 256 := tq1.2.2
          have d1 : ∀ (Iz : Nat → Nat → Int32) (Jz : Nat → Nat → Int64), ab_fR (S0, Iz, Jz, x) 2 195 1 = some 197 := fun _ _ => fR_X2_1 okD
          have rc6 : ∀ (Iz : Nat → Nat → Int32) (Jz : Nat → Nat → Int64), ab_rc (S0, Iz, Jz, x) 10 198 = some () := fun _ _ => rc_X10 tbR.1
          rw [bb_X2_place_81, fR_X1_0 cl17.1, ob_s, fI_X10_3 cl17.2.1.1, ob_s, e0, if_neg (by rw [li_le (by omega) (by omega)]; omega), rc6, ob_s, g0, ob_s, fsm]
          by_cases hT2 : tyT I0 f (11 - k) 0 ≤ R j 0 ∧ tyT I0 f (11 - k) 1 ≤ R j 1
          · rw [if_neg (by rw [li_lt (by omega) (by omega)]; omega), rc6, ob_s, g1, ob_s, if_neg (by rw [li_lt (by omega) (by omega)]; omega), if_pos hT2, rc6, ob_s, tb_add _ tbR tI1 rfl li_0 (show j < 8 by omega) (by omega), ob_s, rc6, ob_s]
            have ngs : ∀ a t : Nat, t ≤ a → nI a + -nI t = nI (a - t) := fun a t h => by
              rw [← pk_sub h]
              grind
            have v0 : I1 (198 + 1) (j * 2 + 0) + -nI (tyT I0 f (11 - k) 0) = nI (R j 0 - tyT I0 f (11 - k) 0) := by
              rw [show I1 (198 + 1) (j * 2 + 0) = nI (R j 0) from o3 j hjN 0 (by omega)]
              exact ngs _ _ hT2.1
            rw [v0]
            have tI2 : tI (ab_u I1 (198 + 1) (j * 2 + 0) (nI (R j 0 - tyT I0 f (11 - k) 0))) 198 8 2 := by
              unfold tI at tI1 ⊢
              rw [u_r (by omega)]
              exact tI1
            rw [tb_add _ tbR tI2 rfl (li_n 1) (show j < 8 by omega) (by omega), ob_s]
            have v1 : ab_u I1 (198 + 1) (j * 2 + 0) (nI (R j 0 - tyT I0 f (11 - k) 0)) (198 + 1) (j * 2 + 1) + -nI (tyT I0 f (11 - k) 1) = nI (R j 1 - tyT I0 f (11 - k) 1) := by
              rw [u_k (by omega), show I1 (198 + 1) (j * 2 + 1) = nI (R j 1) from o3 j hjN 1 (by omega)]
              exact ngs _ _ hT2.2
            rw [v1, d1, ob_s, op_st _ sh_195 rfl (by omega) (by omega), ob_s, nI_1, ← ec]
            have z1 : ∀ r, r ≠ 197 → r ≠ 199 → ab_u (ab_u (ab_u I1 (198 + 1) (j * 2 + 0) (nI (R j 0 - tyT I0 f (11 - k) 0))) (198 + 1) (j * 2 + 1) (nI (R j 1 - tyT I0 f (11 - k) 1))) 197 (cn on (11 - k)) (nI j) r = I1 r := fun r a c => by rw [u_r a, u_r c, u_r c]
            have z2 : ∀ z, z ≠ cn on (11 - k) → ab_u (ab_u (ab_u I1 (198 + 1) (j * 2 + 0) (nI (R j 0 - tyT I0 f (11 - k) 0))) (198 + 1) (j * 2 + 1) (nI (R j 1 - tyT I0 f (11 - k) 1))) 197 (cn on (11 - k)) (nI j) 197 z = I1 197 z := fun z hz => by rw [u_k hz, u_r (by omega), u_r (by omega)]
            have z3 : ab_u (ab_u (ab_u I1 (198 + 1) (j * 2 + 0) (nI (R j 0 - tyT I0 f (11 - k) 0))) (198 + 1) (j * 2 + 1) (nI (R j 1 - tyT I0 f (11 - k) 1))) 197 (cn on (11 - k)) (nI j) 197 (cn on (11 - k)) = nI j := u_e
            have z4 : rmC (ab_u (ab_u (ab_u I1 (198 + 1) (j * 2 + 0) (nI (R j 0 - tyT I0 f (11 - k) 0))) (198 + 1) (j * 2 + 1) (nI (R j 1 - tyT I0 f (11 - k) 1))) 197 (cn on (11 - k)) (nI j)) NH (subR R j (tyT I0 f (11 - k))) := by
              intro a ha w hw2
              rw [u_r (by omega)]
              unfold subR
              by_cases e : a = j
              · rw [if_pos e, e]
                rcases (show w = 0 ∨ w = 1 by omega) with z | z
                · rw [z, u_k (by omega)]; exact u_e
                · rw [z]; exact u_e
              · rw [if_neg e, u_k (by omega), u_k (by omega)]
                exact o3 a ha w hw2
            generalize ab_u (ab_u (ab_u I1 (198 + 1) (j * 2 + 0) (nI (R j 0 - tyT I0 f (11 - k) 0))) (198 + 1) (j * 2 + 1) (nI (R j 1 - tyT I0 f (11 - k) 1))) 197 (cn on (11 - k)) (nI j) = I2 at z1 z2 z3 z4 ⊢
            have o12 : ∀ r, r ≠ 197 → r ≠ 199 → I2 r = I r := fun r a c => (z1 r a c).trans (o1 r a c)
            have tI3 : tI I2 198 8 2 := by
              unfold tI at tI1 ⊢
              rw [z1 198 (by omega) (by omega)]
              exact tI1
            have hm2 : mvs I2 on := by
              unfold mvs at hm ⊢
              rw [o12 195 (by omega) (by omega), o12 196 (by omega) (by omega)]
              exact hm
            have hB2 : ∀ a, a < NH → ∀ w, w < 2 → subR R j (tyT I0 f (11 - k)) a w ≤ 256 := fun a ha w hw2 => by
              have := hB a ha w hw2
              unfold subR
              split <;> omega
            obtain ⟨I3, r1, r2, r3, r4, r5⟩ := ih n I2 (subR R j (tyT I0 f (11 - k))) (by omega) (by omega) (fun r hr => (o12 r (by omega) (by omega)).trans (hI r hr)) hm2 tI3 z4 hB2
            rw [r1, ob_s]
            cases hd : drF on (tyT I0 f) NH k (subR R j (tyT I0 f (11 - k))) with
            | none =>
              have r4' := r4 hd
              show ∃ I', (if (if (none : Option (Nat → Nat)).isSome = true then (1 : Int32) else 0) = 0 then _ else _) = _ ∧ _
              have tI4 : tI I3 198 8 2 := by
                unfold tI at tI3 ⊢
                rw [r2 198 (by omega) (by omega)]
                exact tI3
              have w0 : I3 (198 + 1) (j * 2 + 0) + nI (tyT I0 f (11 - k) 0) = nI (R j 0) := by
                have q := r4' j hjN 0 (by omega)
                unfold subR at q
                rw [if_pos rfl] at q
                rw [show I3 (198 + 1) (j * 2 + 0) = nI (R j 0 - tyT I0 f (11 - k) 0) from q, li_add, show R j 0 - tyT I0 f (11 - k) 0 + tyT I0 f (11 - k) 0 = R j 0 by omega]
              have w1 : I3 (198 + 1) (j * 2 + 1) + nI (tyT I0 f (11 - k) 1) = nI (R j 1) := by
                have q := r4' j hjN 1 (by omega)
                unfold subR at q
                rw [if_pos rfl] at q
                rw [show I3 (198 + 1) (j * 2 + 1) = nI (R j 1 - tyT I0 f (11 - k) 1) from q, li_add, show R j 1 - tyT I0 f (11 - k) 1 + tyT I0 f (11 - k) 1 = R j 1 by omega]
              have tI5 : tI (ab_u I3 (198 + 1) (j * 2 + 0) (nI (R j 0))) 198 8 2 := by
                unfold tI at tI4 ⊢
                rw [u_r (by omega)]
                exact tI4
              rw [if_pos (by decide), rc6, ob_s, tb_add _ tbR tI4 rfl li_0 (show j < 8 by omega) (by omega), ob_s, w0, rc6, ob_s, tb_add _ tbR tI5 rfl (li_n 1) (show j < 8 by omega) (by omega), ob_s, u_k (by omega), w1, bb_X2_place_183, nI_1]
              refine ihq m (j + 1) _ (by omega) (by omega) (fun r a c => by rw [u_r c, u_r c, r2 r a c, o12 r a c]) (fun z hz => by rw [u_r (by omega), u_r (by omega), r3 z (by omega), z2 z (by omega), o2 z hz]) (fun a ha w hw2 => ?_)
              by_cases e : a = j
              · rw [e]
                rcases (show w = 0 ∨ w = 1 by omega) with z | z
                · rw [z, u_k (by omega)]; exact u_e
                · rw [z]; exact u_e
              · rw [u_k (by omega), u_k (by omega), r4' a ha w hw2]
                unfold subR
                rw [if_neg e]
            | some B =>
              show ∃ I', (if (if (some B).isSome = true then (1 : Int32) else 0) = 0 then _ else _) = _ ∧ _
              rw [if_neg (show ¬ (if (some B).isSome = true then (1 : Int32) else 0) = 0 from n10)]
              refine ⟨I3, rfl, fun r a c => (r2 r a c).trans (o12 r a c), fun z hz => by rw [r3 z (by omega), z2 z (by omega), o2 z hz], (fun q => by cases q), fun B' hB' i h1 h2 h3 => ?_⟩
              have eB : updN B (11 - k) j = B' := by simpa using hB'
              rw [← eB]
              unfold updN
              by_cases q : i = 11 - k
              · rw [if_pos q, q, r3 _ (by omega), z3]
              · rw [if_neg q]
                exact r5 B hd i (by omega) h2 h3
          · have skip : ∀ Iz : Nat → Nat → Int32, Iz = I1 → ∃ I', bb_X2_place_183 (dd_X2_place n) (bb_X2_place_81 (dd_X2_place n) m) 195 18 32 (nI (cn on (11 - k))) 198 (nI (tyT I0 f (11 - k) 0)) (nI (tyT I0 f (11 - k) 1)) (nI j) (S0, I1, J, x) = _ ∧ _ := fun _ _ => by
              rw [bb_X2_place_183, nI_1]
              exact ihq m (j + 1) I1 (by omega) (by omega) o1 o2 o3
            rw [if_neg hT2]
            by_cases c0 : tyT I0 f (11 - k) 0 ≤ R j 0
            · have c1 : ¬ tyT I0 f (11 - k) 1 ≤ R j 1 := fun w => hT2 ⟨c0, w⟩
              rw [if_neg (by rw [li_lt (by omega) (by omega)]; omega), rc6, ob_s, g1, ob_s, if_pos (by rw [li_lt (by omega) (by omega)]; omega)]
              exact skip I1 rfl
            · rw [if_pos (by rw [li_lt (by omega) (by omega)]; omega)]
              exact skip I1 rfl
      have hrI : sr I NY 32 f := sr_sam hr (fun r a c => hI r (by omega)) (hI 204 (by omega))
      have hlI : clR I NH NY NE NR := clR_sam hl (fun r a c => hI r (by omega)) (fun r a c => hI r (by omega))
      have e1 : gi I 32 (11 - k) 1 = nI (ty f (11 - k)) := (hrI.2.2.2.1 _ hi hrn).2.1.trans (isn_32 wi.2.1)
      have t0 : gt I 18 (ty f (11 - k)) 0 = nI (tyT I0 f (11 - k) 0) := by
        rw [hlI.2.2.2.2.1 _ hty 0 (by omega)]
        unfold mt
        rw [hI 204 (by omega)]
        exact tq0.1
      have t1 : gt I 18 (ty f (11 - k)) 1 = nI (tyT I0 f (11 - k) 1) := by
        rw [hlI.2.2.2.2.1 _ hty 1 (by omega)]
        unfold mt
        rw [hI 204 (by omega)]
        exact tq1.1
      obtain ⟨I', r1, r2, r3, r4, r5⟩ := loop NH ab_fu 0 I (by omega) (ab_fu_big (by omega)) (fun _ _ _ => rfl) (fun _ _ => rfl) hR
      refine ⟨I', ?_, r2, fun q hq => r3 q (by rw [ei] at hq; exact hq), r4, fun B hB i h1 h2 h3 => r5 B hB i (by omega) h2 h3⟩
      show st_X2_place (dd_X2_place n) 195 18 32 (nI (cn on (11 - k))) (S0, I, J, x) = _
      have ld : ab_ld (S0, I, J, x) 1 196 (nI (cn on (11 - k))) = some (nI (11 - k)) := by
        rw [op_ld sh_194 rfl (by omega) (by omega), hm.2 _ hi ho1]
      have gs : dd_X10_get 33 (nI (11 - k)) 1 (S0, I, J, x) = some (gi I 32 (11 - k) 1, (S0, I, J, x)) := si_get (s := 32) si31 hrI.1 rfl (li_n 1) hi (by omega)
      have gt0 : dd_X10_get 21 (nI (ty f (11 - k))) 0 (S0, I, J, x) = some (gt I 18 (ty f (11 - k)) 0, (S0, I, J, x)) := cl_gett cl17 hlI.1 rfl li_0 (by omega) (by omega)
      have gt1 : dd_X10_get 21 (nI (ty f (11 - k))) 1 (S0, I, J, x) = some (gt I 18 (ty f (11 - k)) 1, (S0, I, J, x)) := cl_gett cl17 hlI.1 rfl (li_n 1) (by omega) (by omega)
      unfold st_X2_place
      rw [if_neg (li_pos (by omega)), fI_X2_2 okD, ob_s, hm.1, if_neg (by rw [li_le (by omega) (by omega)]; omega), fR_X2_0 okD, ob_s]
      show ((ab_len (S0, I, J, x) 1 196).bind _) = _
      rw [op_len sh_194, ob_s, if_neg (by rw [li_le (by omega) (by omega)]; omega), fR_X2_1 okD, ob_s]
      show ((ab_len (S0, I, J, x) 1 197).bind _) = _
      rw [op_len sh_195, ob_s, if_pos (by rw [li_lt (by omega) (by omega)]; omega), e_R2, ob_s, ob_s]
      show ((ab_ld (S0, I, J, x) 1 196 (nI (cn on (11 - k)))).bind _) = _
      rw [ld, ob_s, t_32, ob_s, gs, ob_s, e1, show ab_fR (S0, I, J, x) 2 195 3 = some 198 from fR_X2_3 okD, ob_s, d_R1, ob_s, t_20, ob_s, gt0, ob_s, d_R1, ob_s, t_20, ob_s, gt1, ob_s, t0, t1]
      exact r1
end DC
