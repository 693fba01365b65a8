/-! ===== tokens ===== -/
def so28 (l : Int32) : Int32 := if l = 10 then 5 else if l = 32 then 5 else if l = 40 then 4 else if l = 41 then 4 else if l = 42 then 4 else if l = 43 then 4 else if l = 45 then 4 else if l = 47 then 4 else if l = 59 then 4 else 3
def so14 (l : Int32) : Int32 := if l < 48 then so28 l else if 57 < l then so28 l else 2
/-- the sort of a byte -/
def sor (l : Int32) : Int32 := if l < 97 then so14 l else if 122 < l then so14 l else 1
theorem so28_is (l : Int32) (m : ab_Mm) : bb_X7_sortOf_28 l m = some (so28 l, m) := by
  unfold bb_X7_sortOf_28 so28 bb_X7_sortOf_112 bb_X7_sortOf_114
  repeat' (split; rfl)
  rfl
theorem so14_is (l : Int32) (m : ab_Mm) : bb_X7_sortOf_14 l m = some (so14 l, m) := by
  unfold bb_X7_sortOf_14 so14
  split
  · exact so28_is l m
  · split
    · exact so28_is l m
    · rfl
theorem sor_is (l : Int32) (m : ab_Mm) : dd_X7_sortOf l m = some (sor l, m) := by
  unfold dd_X7_sortOf sor
  split
  · exact so14_is l m
  · split
    · exact so14_is l m
    · rfl
/-- the end of a run -/
def rE (T : Nat → Int32) (s : Int32) : Nat → Nat → Nat
  | 0, p => p
  | k + 1, p => if sor (T p) = s then rE T s k (p + 1) else p
theorem rE_ge {T : Nat → Int32} {s : Int32} : ∀ {k p : Nat}, p ≤ rE T s k p ∧ rE T s k p ≤ p + k
  | 0, p => ⟨Nat.le_refl _, by rw [rE]; omega⟩
  | k + 1, p => by
    rw [rE]
    split
    · have := rE_ge (T := T) (s := s) (k := k) (p := p + 1)
      omega
    · omega
theorem rE_in {T : Nat → Int32} {s : Int32} : ∀ {k p i : Nat}, p ≤ i → i < rE T s k p → sor (T i) = s
  | 0, p, i, h1, h2 => by rw [rE] at h2; omega
  | k + 1, p, i, h1, h2 => by
    rw [rE] at h2
    split at h2
    · rename_i c
      by_cases e : i = p
      · rw [e]; exact c
      · exact rE_in (by omega) h2
    · omega
theorem rE_out {T : Nat → Int32} {s : Int32} : ∀ {k p : Nat}, rE T s k p < p + k → sor (T (rE T s k p)) ≠ s
  | 0, p, h => by rw [rE] at h; omega
  | k + 1, p, h => by
    rw [rE] at h ⊢
    split at h
    · rename_i c
      rw [if_pos c]
      exact rE_out (by omega)
    · rename_i c
      rw [if_neg c]; exact c
/-- a token: where it begins, what stands behind it, of what kind it is -/
def stt (T : Nat → Int32) (N p : Nat) : Nat := rE T 5 (N - p) p
def nxt (T : Nat → Int32) (N p : Nat) : Nat := if N ≤ stt T N p then N else if sor (T (stt T N p)) = 1 then rE T 1 (N - stt T N p) (stt T N p) else if sor (T (stt T N p)) = 2 then rE T 2 (N - stt T N p) (stt T N p) else stt T N p + 1
/-- 0 the end, 1 a word, 2 a number, 3 no token, 4 a sign -/
def tk (T : Nat → Int32) (N p : Nat) : Nat := if N ≤ stt T N p then 0 else if sor (T (stt T N p)) = 1 then (if nxt T N p - stt T N p ≤ 8 then 1 else 3) else if sor (T (stt T N p)) = 2 then (if nxt T N p - stt T N p ≤ 4 then 2 else 3) else if sor (T (stt T N p)) = 4 then 4 else 3
def kdC (T : Nat → Int32) (N p : Nat) : Int32 := if tk T N p = 4 then T (stt T N p) else nI (tk T N p)
def kdM (T : Nat → Int32) (N p : Nat) : Int32 := if tk T N p = 4 then 3 else if tk T N p = 3 then 4 else nI (tk T N p)
def nf (T : Nat → Int32) (s : Nat) : Nat → Int32
  | 0 => 0
  | k + 1 => nf T s k * 10 + T (s + k) - 48
/-- the number of a token -/
def vlN (T : Nat → Int32) (N p : Nat) : Int32 := nf T (stt T N p) (nxt T N p - stt T N p)
theorem stt_le {T : Nat → Int32} {N p : Nat} (h : p ≤ N) : p ≤ stt T N p ∧ stt T N p ≤ N := by
  have := rE_ge (T := T) (s := 5) (k := N - p) (p := p)
  unfold stt
  omega
theorem rE_pos {T : Nat → Int32} {s : Int32} {k p : Nat} (h : 0 < k) (hs : sor (T p) = s) : p < rE T s k p := by
  obtain ⟨k, rfl⟩ : ∃ z, k = z + 1 := ⟨k - 1, by omega⟩
  rw [rE, if_pos hs]
  have := rE_ge (T := T) (s := s) (k := k) (p := p + 1)
  omega
theorem nxt_le {T : Nat → Int32} {N p : Nat} (h : p ≤ N) : stt T N p ≤ nxt T N p ∧ nxt T N p ≤ N ∧ (tk T N p ≠ 0 → p < nxt T N p) := by
  have h1 := stt_le (T := T) h
  unfold nxt tk
  by_cases c : N ≤ stt T N p
  · rw [if_pos c]
    exact ⟨h1.2, Nat.le_refl _, fun z => absurd (if_pos c) z⟩
  · rw [if_neg c]
    by_cases c1 : sor (T (stt T N p)) = 1
    · rw [if_pos c1]
      have a := rE_ge (T := T) (s := 1) (k := N - stt T N p) (p := stt T N p)
      have b := rE_pos (T := T) (s := 1) (k := N - stt T N p) (p := stt T N p) (by omega) c1
      exact ⟨by omega, by omega, fun _ => by omega⟩
    · rw [if_neg c1]
      by_cases c2 : sor (T (stt T N p)) = 2
      · rw [if_pos c2]
        have a := rE_ge (T := T) (s := 2) (k := N - stt T N p) (p := stt T N p)
        have b := rE_pos (T := T) (s := 2) (k := N - stt T N p) (p := stt T N p) (by omega) c2
        exact ⟨by omega, by omega, fun _ => by omega⟩
      · rw [if_neg c2]
        exact ⟨by omega, by omega, fun _ => by omega⟩
theorem tk_lt (T : Nat → Int32) (N p : Nat) : tk T N p ≤ 4 := by
  unfold tk
  repeat' split
  all_goals omega
/-- bytes -/
def rgT (T : Nat → Int32) (N : Nat) : Prop := ∀ k, k < N → -128 ≤ (T k).toInt ∧ (T k).toInt ≤ 127
def by8 (k : Nat) : Int32 := Int32.ofInt ((k : Int) - 128)
theorem by8_ex {t : Int32} (h : -128 ≤ t.toInt ∧ t.toInt ≤ 127) : ∃ k, k < 256 ∧ t = by8 k := by
  refine ⟨(t.toInt + 128).toNat, by omega, ?_⟩
  apply Int32.toInt_inj.mp
  unfold by8
  rw [Int32.toInt_ofInt_of_le (by omega) (by omega)]
  omega
theorem by8_all : ∀ k, k < 256 → ((by8 k &&& 255 = 32) = (by8 k = 32)) ∧ ((by8 k &&& 255 = 10) = (by8 k = 10)) ∧ ((sor (by8 k) = 5) = (by8 k = 32 ∨ by8 k = 10)) ∧ ((by8 k &&& 255) ≠ -1) ∧ wi (by8 k &&& 255).toInt64 97 122 = decide (sor (by8 k) = 1) ∧ wi (by8 k &&& 255).toInt64 48 57 = decide (sor (by8 k) = 2) ∧ (sor (by8 k) = 2 → by8 k &&& 255 = by8 k) ∧ (sor (by8 k) = 4 → by8 k &&& 255 = by8 k) := by
  decide +kernel
def sgB (c : Int32) : Bool := decide (c = 59) || decide (c = 40) || decide (c = 41) || decide (c = 43) || decide (c = 45) || decide (c = 42) || decide (c = 47)
theorem sgB_is (c : Int32) (m : ab_Mm) : dd_X12_isSign c m = some (if sgB c then 1 else 0, m) := by
  unfold dd_X12_isSign sgB bb_X12_isSign_42 bb_X12_isSign_47
  by_cases h1 : c = 59
  · simp [h1]
  · by_cases h2 : c = 40
    · simp [h2]
    · by_cases h3 : c = 41
      · simp [h3]
      · by_cases h4 : c = 43
        · simp [h4]
        · by_cases h5 : c = 45
          · simp [h5]
          · by_cases h6 : c = 42
            · simp [h6]
            · by_cases h7 : c = 47
              · simp [h7]
              · simp [h1, h2, h3, h4, h5, h6, h7]
theorem by8_sg : ∀ k, k < 256 → sgB (by8 k &&& 255) = decide (sor (by8 k) = 4) := by decide +kernel
section LX
variable {I I' I0 I1 I2 I3 I4 : Nat → Nat → Int32} {J J' J1 J2 J3 J4 : Nat → Nat → Int64} {x : Nat} {T : Nat → Int32} {N p : Nat}
theorem r_f5 : ab_fI (S0, I, J, x) 7 1 6 = some (I 1 6) := fI_X7_6 okR
theorem r_f6 : ab_fI (S0, I, J, x) 7 1 7 = some (I 1 7) := fI_X7_7 okR
theorem r_f7 : ab_fI (S0, I, J, x) 7 1 8 = some (I 1 8) := fI_X7_8 okR
theorem r_f8 : ab_fI (S0, I, J, x) 7 1 9 = some (I 1 9) := fI_X7_9 okR
theorem r_p6 (v : Int32) : ab_pI (S0, I, J, x) 7 1 7 v = some (S0, ab_u I 1 7 v, J, x) := pI_X7_7 okR v
theorem r_p7 (v : Int32) : ab_pI (S0, I, J, x) 7 1 8 v = some (S0, ab_u I 1 8 v, J, x) := pI_X7_8 okR v
theorem r_p8 (v : Int32) : ab_pI (S0, I, J, x) 7 1 9 v = some (S0, ab_u I 1 9 v, J, x) := pI_X7_9 okR v
/-- the class's text -/
def txC (I : Nat → Nat → Int32) (T : Nat → Int32) (N : Nat) : Prop := N ≤ 800 ∧ I 1 6 = nI N ∧ ∀ k, k < N → I 2 k = T k ∧ I 3 k = sor (T k)
theorem r_sr : ab_fR (S0, I, J, x) 7 1 2 = some 3 := fR_X7_2 okR
theorem sh_3 : S0[3]? = some (2, 800, []) := rfl
theorem c_runEnd (ht : txC I T N) (s : Int32) {p : Nat} (hp : p ≤ N) : dd_X7_runEnd 1 (nI p) s (S0, I, J, x) = some (nI (rE T s (N - p) p), (S0, I, J, x)) := by
  obtain ⟨h8, h5, hT⟩ := ht
  have loop : ∀ (k fu p : Nat), p + k = N → k < fu → bb_X7_runEnd_10 fu 1 s (nI p) (S0, I, J, x) = some (nI (rE T s k p), (S0, I, J, x)) := by
    intro k
    induction k with
    | zero =>
      intro fu p e1 e2
      obtain ⟨fu, rfl⟩ : ∃ z, fu = z + 1 := ⟨fu - 1, by omega⟩
      rw [bb_X7_runEnd_10, r_f5, ob_s, h5, if_pos (by rw [li_le (by omega) (by omega)]; omega)]
      rfl
    | succ k ih =>
      intro fu p e1 e2
      obtain ⟨fu, rfl⟩ : ∃ z, fu = z + 1 := ⟨fu - 1, by omega⟩
      rw [bb_X7_runEnd_10, r_f5, ob_s, h5, if_neg (by rw [li_le (by omega) (by omega)]; omega), r_sr, ob_s, op_len sh_3, ob_s, if_neg (by rw [li_le (by omega) (by omega)]; omega), ob_s, op_ld sh_3 rfl (by omega) (by omega), ob_s, (hT p (by omega)).2, rE]
      by_cases c : sor (T p) = s
      · rw [if_pos c, if_pos c, nI_1]
        exact ih fu (p + 1) (by omega) (by omega)
      · rw [if_neg c, if_neg c]
        rfl
  unfold dd_X7_runEnd
  rw [if_pos (show (0 : Int32) ≤ nI p by rw [li_0, li_le (by omega) (by omega)]; omega), bb_X7_runEnd_9]
  exact loop (N - p) ab_fu p (by omega) (ab_fu_big (by omega))
/-- the class's token -/
def tkC (I : Nat → Nat → Int32) (T : Nat → Int32) (N p : Nat) : Prop := txC I T N ∧ p ≤ N ∧ I 1 7 = nI (nxt T N p) ∧ I 1 8 = nI (stt T N p) ∧ I 1 9 = kdC T N p
/-- only the token has changed -/
def adC (I I' : Nat → Nat → Int32) : Prop := (∀ r, r ≠ 1 → I' r = I r) ∧ ∀ k, k ≠ 7 → k ≠ 8 → k ≠ 9 → I' 1 k = I 1 k
theorem c_adv (ht : txC I T N) {p : Nat} (hp : p ≤ N) (h6 : I 1 7 = nI p) : ∃ I', dd_X7_advance 1 (S0, I, J, x) = some ((), (S0, I', J, x)) ∧ adC I I' ∧ tkC I' T N p := by
  obtain ⟨h8, h5, hT⟩ := id ht
  have hst := stt_le (T := T) hp
  have hnx := nxt_le (T := T) hp
  have fin : ∀ (I' : Nat → Nat → Int32), adC I I' → I' 1 7 = nI (nxt T N p) → I' 1 8 = nI (stt T N p) → I' 1 9 = kdC T N p → tkC I' T N p := fun I' a e1 e2 e3 => ⟨⟨h8, by rw [a.2 6 (by omega) (by omega) (by omega)]; exact h5, fun k hk => by rw [a.1 2 (by omega), a.1 3 (by omega)]; exact hT k hk⟩, hp, e1, e2, e3⟩
  have c7 : ab_u I 1 8 (nI (stt T N p)) 1 8 = nI (stt T N p) := u_e
  have c5 : ab_u I 1 8 (nI (stt T N p)) 1 6 = nI N := by rw [u_k (by omega)]; exact h5
  have cT : ∀ k, k < N → ab_u I 1 8 (nI (stt T N p)) 2 k = T k ∧ ab_u I 1 8 (nI (stt T N p)) 3 k = sor (T k) := fun k hk => by rw [u_r (by omega), u_r (by omega)]; exact hT k hk
  have hr : dd_X7_runEnd 1 (nI p) 5 (S0, I, J, x) = some (nI (stt T N p), (S0, I, J, x)) := c_runEnd (J := J) (x := x) ht 5 hp
  unfold dd_X7_advance
  rw [r_f6, ob_s, r_rc, ob_s, h6, hr, ob_s]
  dsimp only
  rw [r_p7, ob_s, r_f7, ob_s, r_f5, ob_s, c7, c5]
  by_cases c : N ≤ stt T N p
  · have es : stt T N p = N := by omega
    have en : nxt T N p = N := by unfold nxt; rw [if_pos c]
    have ek : kdC T N p = 0 := by
      have : tk T N p = 0 := by unfold tk; rw [if_pos c]
      unfold kdC
      rw [this]; rfl
    rw [if_pos (by rw [li_le (by omega) (by omega)]; exact c), bb_X7_advance_48, r_p8, ob_s, r_f5, ob_s, r_p7, ob_s, r_f5, ob_s, r_p6, ob_s]
    have e5 : ab_u (ab_u I 1 8 (nI (stt T N p))) 1 9 0 1 6 = nI N := by rw [u_k (by omega)]; exact c5
    have a : adC I (ab_u (ab_u (ab_u (ab_u I 1 8 (nI (stt T N p))) 1 9 0) 1 8 (ab_u (ab_u I 1 8 (nI (stt T N p))) 1 9 0 1 6)) 1 7 (ab_u (ab_u (ab_u I 1 8 (nI (stt T N p))) 1 9 0) 1 8 (ab_u (ab_u I 1 8 (nI (stt T N p))) 1 9 0 1 6) 1 6)) := ⟨fun r hr => by rw [u_r hr, u_r hr, u_r hr, u_r hr], fun k k6 k7 k8 => by rw [u_k k6, u_k k7, u_k k8, u_k k7]⟩
    refine ⟨_, rfl, a, fin _ a ?_ ?_ ?_⟩
    · rw [u_e, u_k (by omega), e5, en]
    · rw [u_k (by omega), u_e, e5, es]
    · rw [u_k (by omega), u_k (by omega), u_e, ek]
  · have hlt : stt T N p < N := by omega
    rw [if_neg (by rw [li_le (by omega) (by omega)]; exact c), ob_s, r_f0, ob_s, op_len sh_2, ob_s, if_neg (by rw [li_le (by omega) (by omega)]; omega), ob_s, r_sr, ob_s, op_len sh_3, ob_s, if_pos (by rw [li_lt (by omega) (by omega)]; omega), ob_s, ob_s, op_ld sh_3 rfl (show stt T N p < 800 by omega) (by omega), ob_s, (cT _ hlt).2]
    -- what comes behind the token's end
    have tail : ∀ nx : Nat, nx = nxt T N p → stt T N p < nx → ∃ I', bb_X7_advance_109 1 (sor (T (stt T N p))) 1 (nI nx) (S0, ab_u I 1 8 (nI (stt T N p)), J, x) = some ((), (S0, I', J, x)) ∧ adC I I' ∧ tkC I' T N p := by
      intro nx hnx2 hlt2
      have a0 : adC I (ab_u (ab_u I 1 8 (nI (stt T N p))) 1 7 (nI nx)) := ⟨fun r hr => by rw [u_r hr, u_r hr], fun k k6 k7 k8 => by rw [u_k k6, u_k k7]⟩
      have d6 : ab_u (ab_u I 1 8 (nI (stt T N p))) 1 7 (nI nx) 1 7 = nI nx := u_e
      have d7 : ab_u (ab_u I 1 8 (nI (stt T N p))) 1 7 (nI nx) 1 8 = nI (stt T N p) := by rw [u_k (by omega)]; exact c7
      have dT : ∀ k, k < N → ab_u (ab_u I 1 8 (nI (stt T N p))) 1 7 (nI nx) 2 k = T k := fun k hk => by rw [u_r (by omega)]; exact (cT k hk).1
      have put : ∀ v : Int32, v = kdC T N p → ∃ I', bb_X7_advance_174 1 v (S0, ab_u (ab_u I 1 8 (nI (stt T N p))) 1 7 (nI nx), J, x) = some ((), (S0, I', J, x)) ∧ adC I I' ∧ tkC I' T N p := by
        intro v hv
        have a : adC I (ab_u (ab_u (ab_u I 1 8 (nI (stt T N p))) 1 7 (nI nx)) 1 9 v) := ⟨fun r hr => by rw [u_r hr]; exact a0.1 r hr, fun k k6 k7 k8 => by rw [u_k k8]; exact a0.2 k k6 k7 k8⟩
        rw [bb_X7_advance_174, r_p8, ob_s]
        exact ⟨_, rfl, a, fin _ a (by rw [u_k (by omega), d6, hnx2]) (by rw [u_k (by omega), d7]) (by rw [u_e, hv])⟩
      have go : ∀ mx : Nat, mx ≤ 8 → (sor (T (stt T N p)) = 1 → mx = 8) → (sor (T (stt T N p)) ≠ 1 → mx = 4) → ∃ I', bb_X7_advance_123 1 (sor (T (stt T N p))) (nI mx) (S0, ab_u (ab_u I 1 8 (nI (stt T N p))) 1 7 (nI nx), J, x) = some ((), (S0, I', J, x)) ∧ adC I I' ∧ tkC I' T N p := by
        intro mx hmx8 hm1 hm2
        rw [bb_X7_advance_123]
        by_cases c4 : sor (T (stt T N p)) = 4
        · have et : tk T N p = 4 := by
            unfold tk
            rw [if_neg c, if_neg (by rw [c4]; decide), if_neg (by rw [c4]; decide), if_pos c4]
          have ek : kdC T N p = T (stt T N p) := by unfold kdC; rw [if_pos et]
          rw [if_pos c4, r_f0, ob_s, r_f7, ob_s, d7, op_ld sh_2 rfl (show stt T N p < 800 by omega) (by omega), ob_s, dT _ hlt]
          exact put _ ek.symm
        · rw [if_neg c4, r_f6, ob_s, r_f7, ob_s, d6, d7, pk_sub (by omega)]
          by_cases c1 : sor (T (stt T N p)) = 1
          · have em := hm1 c1
            subst em
            by_cases cl : nxt T N p - stt T N p ≤ 8
            · have et : tk T N p = 1 := by unfold tk; rw [if_neg c, if_pos c1, if_pos cl]
              have ek : kdC T N p = 1 := by unfold kdC; rw [et]; rfl
              rw [if_neg (by rw [li_lt (by omega) (by omega)]; omega), if_pos c1, bb_X7_advance_169, c1]
              exact put 1 ek.symm
            · have et : tk T N p = 3 := by unfold tk; rw [if_neg c, if_pos c1, if_neg cl]
              have ek : kdC T N p = 3 := by unfold kdC; rw [et]; rfl
              rw [if_pos (by rw [li_lt (by omega) (by omega)]; omega), bb_X7_advance_173]
              exact put 3 ek.symm
          · have em := hm2 c1
            subst em
            by_cases c2 : sor (T (stt T N p)) = 2
            · by_cases cl : nxt T N p - stt T N p ≤ 4
              · have et : tk T N p = 2 := by unfold tk; rw [if_neg c, if_neg c1, if_pos c2, if_pos cl]
                have ek : kdC T N p = 2 := by unfold kdC; rw [et]; rfl
                rw [if_neg (by rw [li_lt (by omega) (by omega)]; omega), if_neg c1, if_pos c2, bb_X7_advance_169, c2]
                exact put 2 ek.symm
              · have et : tk T N p = 3 := by unfold tk; rw [if_neg c, if_neg c1, if_pos c2, if_neg cl]
                have ek : kdC T N p = 3 := by unfold kdC; rw [et]; rfl
                rw [if_pos (by rw [li_lt (by omega) (by omega)]; omega), bb_X7_advance_173]
                exact put 3 ek.symm
            · have et : tk T N p = 3 := by unfold tk; rw [if_neg c, if_neg c1, if_neg c2, if_neg c4]
              have ek : kdC T N p = 3 := by unfold kdC; rw [et]; rfl
              rw [if_neg c1, if_neg c2, bb_X7_advance_173]
              split
              · exact put 3 ek.symm
              · exact put 3 ek.symm
      rw [bb_X7_advance_109, r_p6, ob_s]
      by_cases c1 : sor (T (stt T N p)) = 1
      · rw [if_pos c1]
        exact go 8 (by omega) (fun _ => rfl) (fun z => absurd c1 z)
      · rw [if_neg c1]
        exact go 4 (by omega) (fun z => absurd z c1) (fun _ => rfl)
    have ht2 : txC (ab_u I 1 8 (nI (stt T N p))) T N := ⟨h8, c5, cT⟩
    by_cases c1 : sor (T (stt T N p)) = 1
    · have en : nxt T N p = rE T 1 (N - stt T N p) (stt T N p) := by unfold nxt; rw [if_neg c, if_pos c1]
      have q : dd_X7_runEnd 1 (nI (stt T N p)) (sor (T (stt T N p))) (S0, ab_u I 1 8 (nI (stt T N p)), J, x) = some (nI (nxt T N p), (S0, ab_u I 1 8 (nI (stt T N p)), J, x)) := by
          rw [c1, en]; exact c_runEnd ht2 1 hst.2
      rw [if_pos c1, bb_X7_advance_91, r_f7, ob_s, r_rc, ob_s, c7, q, ob_s]
      have hp2 := rE_pos (T := T) (s := 1) (k := N - stt T N p) (p := stt T N p) (by omega) c1
      exact tail _ rfl (by omega)
    · rw [if_neg c1]
      by_cases c2 : sor (T (stt T N p)) = 2
      · have en : nxt T N p = rE T 2 (N - stt T N p) (stt T N p) := by unfold nxt; rw [if_neg c, if_neg c1, if_pos c2]
        have q : dd_X7_runEnd 1 (nI (stt T N p)) (sor (T (stt T N p))) (S0, ab_u I 1 8 (nI (stt T N p)), J, x) = some (nI (nxt T N p), (S0, ab_u I 1 8 (nI (stt T N p)), J, x)) := by
          rw [c2, en]; exact c_runEnd ht2 2 hst.2
        rw [if_pos c2, bb_X7_advance_91, r_f7, ob_s, r_rc, ob_s, c7, q, ob_s]
        have hp2 := rE_pos (T := T) (s := 2) (k := N - stt T N p) (p := stt T N p) (by omega) c2
        exact tail _ rfl (by omega)
      · have en : nxt T N p = stt T N p + 1 := by unfold nxt; rw [if_neg c, if_neg c1, if_neg c2]
        rw [if_neg c2, ob_s, nI_1]
        exact tail _ en.symm (by omega)
end LX
