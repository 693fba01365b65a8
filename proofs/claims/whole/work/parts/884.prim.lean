/-! ===== both readers, step by step ===== -/
section PR
variable {I I' I0 I1 I2 I3 I4 M M' M0 M1 M2 : Nat → Nat → Int32} {J J' J1 J2 J3 J4 : Nat → Nat → Int64} {x x' : Nat} {T : Nat → Int32} {N p : Nat}
/-- what the class's reading leaves -/
def BC (I0 I : Nat → Nat → Int32) : Prop := (∀ r, (r = 0 ∨ r = 2 ∨ r = 3 ∨ 18 ≤ r) → I r = I0 r) ∧ (∀ k, k < 3 → I 1 k = I0 1 k) ∧ I 1 6 = I0 1 6 ∧ clI I 4
/-- what the reference's reading leaves -/
def BM (M0 M : Nat → Nat → Int32) : Prop := (∀ r, (r < 200 ∨ 209 ≤ r) → M r = M0 r) ∧ (∀ k, (k < 12 ∨ 21 ≤ k) → M 200 k = M0 200 k) ∧ (∀ k, k < 7 → M 202 k = M0 202 k) ∧ (∀ k, k < 16 → M 203 k = M0 203 k) ∧ (∀ k, k < 18 → M 204 k = M0 204 k) ∧ (∀ k, k < 6 → M 205 k = M0 205 k) ∧ (∀ k, k < 48 → M 206 k = M0 206 k) ∧ M 207 0 = M0 207 0 ∧ (∀ k, k < 820 → M 208 k = M0 208 k)
theorem BC_u (h : BC I0 I) {r k : Nat} (v : Int32) (hr : (r = 1 ∧ 3 ≤ k ∧ k ≠ 6) ∨ ((r = 5 ∨ r = 7 ∨ r = 9 ∨ r = 11 ∨ r = 13) ∧ k = 3) ∨ (r = 6 ∨ r = 8 ∨ r = 10 ∨ r = 12 ∨ r = 14 ∨ r = 15 ∨ r = 16 ∨ r = 17)) : BC I0 (ab_u I r k v) := by
  obtain ⟨a, c, d, e⟩ := h
  refine ⟨fun q hq => by rw [u_r (by omega)]; exact a q hq, fun j hj => ?_, ?_, ?_⟩
  · by_cases q : r = 1
    · subst q; rw [u_k (by omega)]; exact c j hj
    · rw [u_r (fun z => q z.symm)]; exact c j hj
  · by_cases q : r = 1
    · subst q; rw [u_k (by omega)]; exact d
    · rw [u_r (fun z => q z.symm)]; exact d
  · have key : ∀ t, t = 5 ∨ t = 7 ∨ t = 9 ∨ t = 11 ∨ t = 13 → ∀ j, j < 2 → ab_u I r k v t j = I t j := fun t ht j hj => by
      by_cases q : r = t
      · subst q; rw [u_k (by omega)]
      · rw [u_r (fun z => q z.symm)]
    unfold clI tI at e ⊢
    rw [key (4 + 1) (by omega) 0 (by omega), key (4 + 1) (by omega) 1 (by omega), key (4 + 3) (by omega) 0 (by omega), key (4 + 3) (by omega) 1 (by omega), key (4 + 5) (by omega) 0 (by omega), key (4 + 5) (by omega) 1 (by omega), key (4 + 7) (by omega) 0 (by omega), key (4 + 7) (by omega) 1 (by omega), key (4 + 9) (by omega) 0 (by omega), key (4 + 9) (by omega) 1 (by omega)]
    exact e
theorem BM_u (h : BM M0 M) {r k : Nat} (v : Int32) (hr : (r = 200 ∧ 12 ≤ k ∧ k < 21) ∨ (r = 202 ∧ 7 ≤ k) ∨ (r = 203 ∧ 16 ≤ k) ∨ (r = 204 ∧ 18 ≤ k) ∨ (r = 205 ∧ 6 ≤ k) ∨ (r = 206 ∧ 48 ≤ k) ∨ (r = 207 ∧ k = 1) ∨ (r = 208 ∧ 820 ≤ k)) : BM M0 (ab_u M r k v) := by
  obtain ⟨a, c, d1, d2, d3, d4, d5, d6, d7⟩ := h
  have key : ∀ q j, (q ≠ r ∨ j ≠ k) → ab_u M r k v q j = M q j := fun q j h => by
    by_cases e : q = r
    · subst e; rw [u_k (by omega)]
    · rw [u_r e]
  refine ⟨fun q hq => by rw [u_r (by omega)]; exact a q hq, fun j hj => by rw [key _ _ (by omega)]; exact c j hj, fun j hj => by rw [key _ _ (by omega)]; exact d1 j hj, fun j hj => by rw [key _ _ (by omega)]; exact d2 j hj, fun j hj => by rw [key _ _ (by omega)]; exact d3 j hj, fun j hj => by rw [key _ _ (by omega)]; exact d4 j hj, fun j hj => by rw [key _ _ (by omega)]; exact d5 j hj, by rw [key _ _ (by omega)]; exact d6, fun j hj => by rw [key _ _ (by omega)]; exact d7 j hj⟩
theorem BC_ad (h : BC I0 I) (a : adC I I') : BC I0 I' := by
  obtain ⟨b1, b2, b3, b4⟩ := h
  refine ⟨fun q hq => by rw [a.1 q (by omega)]; exact b1 q hq, fun j hj => by rw [a.2 j (by omega) (by omega) (by omega)]; exact b2 j hj, by rw [a.2 6 (by omega) (by omega) (by omega)]; exact b3, ?_⟩
  unfold clI tI at b4 ⊢
  rw [a.1 (4 + 1) (by omega), a.1 (4 + 3) (by omega), a.1 (4 + 5) (by omega), a.1 (4 + 7) (by omega), a.1 (4 + 9) (by omega)]
  exact b4
theorem BM_ad (h : BM M0 M) (a : adM M M') : BM M0 M' := by
  obtain ⟨b1, c, d1, d2, d3, d4, d5, d6, d7⟩ := h
  refine ⟨fun q hq => by rw [a.1 q (by omega)]; exact b1 q hq, fun j hj => by rw [a.2 j (by omega)]; exact c j hj, ?_⟩
  rw [a.1 202 (by omega), a.1 203 (by omega), a.1 204 (by omega), a.1 205 (by omega), a.1 206 (by omega), a.1 207 (by omega), a.1 208 (by omega)]
  exact ⟨d1, d2, d3, d4, d5, d6, d7⟩
/-- both readers are at the same token -/
def STT (T : Nat → Int32) (N p : Nat) (I0 M0 I M : Nat → Nat → Int32) : Prop := tkC I T N p ∧ tkM M T N p ∧ M 200 16 = 0 ∧ BC I0 I ∧ BM M0 M ∧ I 1 4 = -1 ∧ I 1 5 = 0 ∧ M 200 17 = -1
/-- both have failed alike -/
def FLL (I0 M0 I M : Nat → Nat → Int32) : Prop := (∃ c, c ≠ 0 ∧ I 1 5 = c ∧ M 200 16 = c ∧ I 1 4 = M 200 17) ∧ BC I0 I ∧ BM M0 M
def LK (I0 M0 : Nat → Nat → Int32) (J : Nat → Nat → Int64) (x : Nat) (J' : Nat → Nat → Int64) (x' : Nat) (rc rm : Option (Int32 × ab_Mm)) (ok : (Nat → Nat → Int32) → (Nat → Nat → Int32) → Prop) : Prop := (∃ I M, rc = some (1, (S0, I, J, x)) ∧ rm = some (1, (S0, M, J', x')) ∧ ok I M) ∨ ∃ I M, rc = some (0, (S0, I, J, x)) ∧ rm = some (0, (S0, M, J', x')) ∧ FLL I0 M0 I M
theorem m_F16 : ab_fI (S0, I, J, x) 12 200 16 = some (I 200 16) := fI_X12_16 okM
theorem m_F18 : ab_fI (S0, I, J, x) 12 200 18 = some (I 200 18) := fI_X12_18 okM
theorem m_F19 : ab_fI (S0, I, J, x) 12 200 19 = some (I 200 19) := fI_X12_19 okM
theorem m_F20 : ab_fI (S0, I, J, x) 12 200 20 = some (I 200 20) := fI_X12_20 okM
theorem L_fail (h : STT T N p I0 M0 I M) {c : Int32} (hc : c ≠ 0) : ∃ I' M', dd_X7_fail 1 c (S0, I, J, x) = some (0, (S0, I', J, x)) ∧ dd_X12_fails 200 c (S0, M, J', x') = some (0, (S0, M', J', x')) ∧ FLL I0 M0 I' M' := by
  obtain ⟨a, b, e, hb, hm, _⟩ := h
  refine ⟨ab_u (ab_u I 1 5 c) 1 4 (nI (stt T N p)), ab_u (ab_u M 200 16 c) 200 17 (nI (stt T N p)), ?_, ?_, ⟨c, hc, ?_, ?_, ?_⟩, BC_u (BC_u hb _ (by omega)) _ (by omega), BM_u (BM_u hm _ (by omega)) _ (by omega)⟩
  · have e7 : ab_u I 1 5 c 1 8 = nI (stt T N p) := by rw [u_k (by omega)]; exact a.2.2.2.1
    unfold dd_X7_fail
    rw [pI_X7_5 okR, ob_s, r_f7, ob_s, e7, pI_X7_4 okR, ob_s]
  · have e12 : ab_u M 200 16 c 200 12 = nI (stt T N p) := by rw [u_k (by omega)]; exact b.2.2.1
    unfold dd_X12_fails
    rw [m_F16, ob_s, e, if_pos rfl, pI_X12_16 okM, ob_s, m_F12, ob_s, e12, pI_X12_17 okM, ob_s]
    rfl
  · rw [u_k (by omega), u_e]
  · rw [u_k (by omega), u_e]
  · rw [u_e, u_e]
theorem L_failb (h : STT T N p I0 M0 I M) {c : Int32} (hc : c ≠ 0) : LK I0 M0 J x J' x' ((dd_X7_fail 1 c (S0, I, J, x)).bind fun q => if ¬ (q.1 &&& 1 = q.1) then none else some (q.1, q.2)) ((dd_X12_fails 200 c (S0, M, J', x')).bind fun q => if ¬ (q.1 &&& 1 = q.1) then none else some (q.1, q.2)) (fun _ _ => False) := by
  obtain ⟨I', M', h1, h2, h3⟩ := L_fail (J := J) (x := x) (J' := J') (x' := x') h hc
  rw [h1, h2, ob_s, ob_s]
  dsimp only
  rw [if_neg (by decide), if_neg (by decide)]
  exact Or.inr ⟨I', M', rfl, rfl, h3⟩
theorem L_adv (h : STT T N p I0 M0 I M) : ∃ I' M', dd_X7_advance 1 (S0, I, J, x) = some ((), (S0, I', J, x)) ∧ dd_X12_advance 200 (S0, M, J', x') = some ((), (S0, M', J', x')) ∧ STT T N (nxt T N p) I0 M0 I' M' ∧ adC I I' ∧ adM M M' := by
  obtain ⟨a, b, e, hb, hm, f3, f4, f17⟩ := h
  have hn := nxt_le (T := T) a.2.1
  obtain ⟨I', c1, c2, c3⟩ := c_adv (J := J) (x := x) a.1 hn.2.1 a.2.2.1
  obtain ⟨M', d1, d2, d3⟩ := m_adv (J := J') (x := x') b.1 hn.2.1 b.2.2.2.1
  exact ⟨I', M', c1, d1, ⟨c3, d3, by rw [d2.2 16 (by omega)]; exact e, BC_ad hb c2, BM_ad hm d2, by rw [c2.2 4 (by omega) (by omega) (by omega)]; exact f3, by rw [c2.2 5 (by omega) (by omega) (by omega)]; exact f4, by rw [d2.2 17 (by omega)]; exact f17⟩, c2, d2⟩
theorem tkC_u (h : tkC I T N p) {r k : Nat} (v : Int32) (hr : r ≠ 2 ∧ (r ≠ 1 ∨ (k ≠ 6 ∧ k ≠ 7 ∧ k ≠ 8 ∧ k ≠ 9)) ∧ r ≠ 3) : tkC (ab_u I r k v) T N p := by
  obtain ⟨⟨h8, h5, hT⟩, hp, e6, e7, e8⟩ := h
  have key : ∀ j, j = 6 ∨ j = 7 ∨ j = 8 ∨ j = 9 → ab_u I r k v 1 j = I 1 j := fun j hj => by
    by_cases e : r = 1
    · subst e; rw [u_k (by omega)]
    · rw [u_r (fun z => e z.symm)]
  exact ⟨⟨h8, by rw [key 6 (by omega)]; exact h5, fun j hj => by rw [u_r (fun z => hr.1 z.symm), u_r (fun z => hr.2.2 z.symm)]; exact hT j hj⟩, hp, by rw [key 7 (by omega)]; exact e6, by rw [key 8 (by omega)]; exact e7, by rw [key 9 (by omega)]; exact e8⟩
theorem tkM_u (h : tkM M T N p) {r k : Nat} (v : Int32) (hr : r ≠ 209 ∧ (r ≠ 200 ∨ (k ≠ 11 ∧ k ≠ 12 ∧ k ≠ 13 ∧ k ≠ 14 ∧ k ≠ 15))) : tkM (ab_u M r k v) T N p := by
  obtain ⟨⟨h8, hR, h11, hT⟩, hp, e12, e13, e14, e2, e4⟩ := h
  have key : ∀ j, j = 11 ∨ j = 12 ∨ j = 13 ∨ j = 14 ∨ j = 15 → ab_u M r k v 200 j = M 200 j := fun j hj => by
    by_cases e : r = 200
    · subst e; rw [u_k (by omega)]
    · rw [u_r (fun z => e z.symm)]
  exact ⟨⟨h8, hR, by rw [key 11 (by omega)]; exact h11, fun j hj => by rw [u_r (fun z => hr.1 z.symm)]; exact hT j hj⟩, hp, by rw [key 12 (by omega)]; exact e12, by rw [key 13 (by omega)]; exact e13, by rw [key 14 (by omega)]; exact e14, fun z => by rw [key 15 (by omega)]; exact e2 z, fun z => by rw [key 15 (by omega)]; exact e4 z⟩
/-- a cell of the class's draft, a cell of the reference's -/
theorem STT_uC (h : STT T N p I0 M0 I M) {r k : Nat} (v : Int32) (hr : (r = 1 ∧ 10 ≤ k) ∨ ((r = 5 ∨ r = 7 ∨ r = 9 ∨ r = 11 ∨ r = 13) ∧ k = 3) ∨ (r = 6 ∨ r = 8 ∨ r = 10 ∨ r = 12 ∨ r = 14 ∨ r = 15 ∨ r = 16 ∨ r = 17)) : STT T N p I0 M0 (ab_u I r k v) M := by
  have key : ∀ j, j = 4 ∨ j = 5 → ab_u I r k v 1 j = I 1 j := fun j hj => by
    by_cases e : r = 1
    · subst e; rw [u_k (by omega)]
    · rw [u_r (fun z => e z.symm)]
  exact ⟨tkC_u h.1 v (by omega), h.2.1, h.2.2.1, BC_u h.2.2.2.1 v (by omega), h.2.2.2.2.1, by rw [key 4 (by omega)]; exact h.2.2.2.2.2.1, by rw [key 5 (by omega)]; exact h.2.2.2.2.2.2.1, h.2.2.2.2.2.2.2⟩
theorem STT_uM (h : STT T N p I0 M0 I M) {r k : Nat} (v : Int32) (hr : (r = 200 ∧ 18 ≤ k ∧ k < 21) ∨ (r = 202 ∧ 7 ≤ k) ∨ (r = 203 ∧ 16 ≤ k) ∨ (r = 204 ∧ 18 ≤ k) ∨ (r = 205 ∧ 6 ≤ k) ∨ (r = 206 ∧ 48 ≤ k) ∨ (r = 207 ∧ k = 1) ∨ (r = 208 ∧ 820 ≤ k)) : STT T N p I0 M0 I (ab_u M r k v) := by
  refine ⟨h.1, tkM_u h.2.1 v (by omega), ?_, h.2.2.2.1, BM_u h.2.2.2.2.1 v (by omega), h.2.2.2.2.2.1, h.2.2.2.2.2.2.1, ?_⟩
  · by_cases e : r = 200
    · subst e; rw [u_k (by omega)]; exact h.2.2.1
    · rw [u_r (fun z => e z.symm)]; exact h.2.2.1
  · by_cases e : r = 200
    · subst e; rw [u_k (by omega)]; exact h.2.2.2.2.2.2.2
    · rw [u_r (fun z => e z.symm)]; exact h.2.2.2.2.2.2.2
/-- the frames of a step that lays a number -/
def fC1 (t j : Nat) (I I' : Nat → Nat → Int32) : Prop := (∀ r, r ≠ 1 → r ≠ t → I' r = I r) ∧ (∀ i, i ≠ j → I' t i = I t i) ∧ ∀ k, k ≠ 7 → k ≠ 8 → k ≠ 9 → I' 1 k = I 1 k
def fM1 (a j : Nat) (M M' : Nat → Nat → Int32) : Prop := (∀ r, r ≠ 200 → r ≠ a → M' r = M r) ∧ (∀ i, i ≠ j → M' a i = M a i) ∧ ∀ k, (k < 12 ∨ 16 ≤ k) → k ≠ 18 → M' 200 k = M 200 k
/-- a number is taken: the class's table, and what the reference notes -/
theorem L_takes (h : STT T N p I0 M0 I M) {t R C n col : Nat} {cI : Int32} (lo hi : Int32) (ht : tb t R C) (hI : tI I t R C) (hn : I t 3 = nI n) (hcI : cI = nI col) (h1 : n < R) (h2 : col < C) (ht4 : t = 5 ∨ t = 7 ∨ t = 9 ∨ t = 11 ∨ t = 13) : LK I0 M0 J x J' x' (dd_X7_puts 1 t cI lo hi (S0, I, J, x)) (dd_X12_takes 200 lo hi (S0, M, J', x')) (fun I' M' => STT T N (nxt T N p) I0 M0 I' M' ∧ tk T N p = 2 ∧ I' (t + 1) (n * C + col) = vlN T N p ∧ M' 200 18 = vlN T N p ∧ ¬ vlN T N p < lo ∧ vlN T N p ≤ hi ∧ fC1 (t + 1) (n * C + col) I I' ∧ (∀ r, r ≠ 200 → M' r = M r) ∧ ∀ k, (k < 12 ∨ 16 ≤ k) → k ≠ 18 → M' 200 k = M 200 k) := by
  have a := h.1
  have b := h.2.1
  have k2 : (kdC T N p = 2) = (tk T N p = 2) := kdC_lo (c := 2) (by omega)
  have k2m : (kdM T N p = 2) = (tk T N p = 2) := kdM_lo (c := 2) (by omega)
  have f1 := L_failb (J := J) (x := x) (J' := J') (x' := x') h (c := 1) (by decide)
  have f3 := L_failb (J := J) (x := x) (J' := J') (x' := x') h (c := 3) (by decide)
  unfold dd_X7_puts dd_X12_takes
  rw [r_f8, ob_s, a.2.2.2.2, m_F14, ob_s, b.2.2.2.2.1]
  by_cases c2 : tk T N p = 2
  · have ev := b.2.2.2.2.2.1 c2
    rw [if_pos (by rw [k2]; exact c2), if_pos (by rw [k2m]; exact c2), r_rc, ob_s, c_number a, ob_s, m_F15, ob_s, ev, m_within, ob_s]
    have ew : wi (vlN T N p).toInt64 lo.toInt64 hi.toInt64 = (!decide (vlN T N p < lo) && !decide (hi < vlN T N p)) := by
      unfold wi
      simp only [j_lt]
    rw [ew]
    dsimp only
    have bad : LK I0 M0 J x J' x' (bb_X7_puts_33 1 (S0, I, J, x)) ((ab_rc (S0, M, J', x') 12 200).bind fun _ => (dd_X12_fails 200 (3 : Int32) (S0, M, J', x')).bind fun q7 => if ¬ (q7.1 &&& 1 = q7.1) then none else some (q7.1, q7.2)) (fun _ _ => False) := by
      rw [bb_X7_puts_33, r_rc, ob_s, m_rc, ob_s]
      exact f3
    have weak : ∀ {rc rm : Option (Int32 × ab_Mm)} {ok : (Nat → Nat → Int32) → (Nat → Nat → Int32) → Prop}, LK I0 M0 J x J' x' rc rm (fun _ _ => False) → LK I0 M0 J x J' x' rc rm ok := by
      intro rc rm ok hh
      rcases hh with ⟨_, _, _, _, z⟩ | z
      · exact absurd z id
      · exact Or.inr z
    by_cases c3 : vlN T N p < lo
    · rw [if_pos c3]
      rw [show (!decide (vlN T N p < lo) && !decide (hi < vlN T N p)) = false from by simp [c3]]
      rw [if_neg (show ¬ (false = true) by decide), if_pos rfl]
      exact weak bad
    · rw [if_neg c3]
      by_cases c4 : vlN T N p ≤ hi
      · have c5 : ¬ hi < vlN T N p := by rw [Int32.lt_iff_toInt_lt]; rw [Int32.le_iff_toInt_le] at c4; omega
        rw [if_pos c4]
        rw [show (!decide (vlN T N p < lo) && !decide (hi < vlN T N p)) = true from by simp [c3, c5]]
        rw [if_pos (show true = true from rfl), if_neg n10, m_F15, ob_s, ev, pI_X12_18 okM, ob_s, m_rc, ob_s, fI_X10_3 ht.1, ob_s, hn, rc_X10 ht.1, ob_s, tb_set _ ht hI rfl hcI h1 h2, ob_s, r_rc, ob_s]
        obtain ⟨I', M', r1, r2, r3, r4, r5⟩ := L_adv (J := J) (x := x) (J' := J') (x' := x') (STT_uM (STT_uC h (r := t + 1) (k := n * C + col) (vlN T N p) (by omega)) (r := 200) (k := 18) (vlN T N p) (by omega))
        rw [r1, r2, ob_s, ob_s]
        refine Or.inl ⟨I', M', rfl, rfl, r3, c2, ?_, ?_, c3, c4, ⟨fun r p1 p2 => ?_, fun i hi => ?_, fun k p1 p2 p3 => ?_⟩, fun r p1 => ?_, fun k p1 p2 => ?_⟩
        · rw [r4.1 _ (by omega), u_e]
        · rw [r5.2 18 (by omega), u_e]
        · rw [r4.1 r p1, u_r p2]
        · rw [r4.1 _ (by omega), u_k hi]
        · rw [r4.2 k p1 p2 p3, u_r (by omega)]
        · rw [r5.1 r p1, u_r p1]
        · rw [r5.2 k p1, u_k p2]
      · have c5 : hi < vlN T N p := by rw [Int32.lt_iff_toInt_lt]; rw [Int32.le_iff_toInt_le] at c4; omega
        rw [if_neg c4]
        rw [show (!decide (vlN T N p < lo) && !decide (hi < vlN T N p)) = false from by simp [c5]]
        rw [if_neg (show ¬ (false = true) by decide), if_pos rfl]
        exact weak bad
  · rw [if_neg (by rw [k2]; exact c2), if_neg (by rw [k2m]; exact c2), r_rc, ob_s, m_rc, ob_s]
    rcases f1 with ⟨_, _, _, _, z⟩ | z
    · exact absurd z id
    · exact Or.inr z
/-- a number is laid into a row -/
theorem L_lays (h : STT T N p I0 M0 I M) {t R C n col a hf k : Nat} {cI kI : Int32} (lo hi : Int32) (ht : tb t R C) (hI : tI I t R C) (hn : I t 3 = nI n) (hcI : cI = nI col) (h1 : n < R) (h2 : col < C) (ht4 : t = 5 ∨ t = 7 ∨ t = 9 ∨ t = 11 ∨ t = 13) (ha : S0[a]? = some (1, 2 * hf, [])) (hd : nI (2 * hf) / 2 = nI hf) (hk : kI = nI k) (hkh : k < hf) (h100 : hf < 100) (haa : (a = 203 ∧ hf = 16) ∨ (a = 204 ∧ hf = 18) ∨ (a = 205 ∧ hf = 6) ∨ (a = 206 ∧ hf = 48)) : LK I0 M0 J x J' x' (dd_X7_puts 1 t cI lo hi (S0, I, J, x)) (dd_X12_lays 200 a kI lo hi (S0, M, J', x')) (fun I' M' => STT T N (nxt T N p) I0 M0 I' M' ∧ tk T N p = 2 ∧ I' (t + 1) (n * C + col) = vlN T N p ∧ M' a (hf + k) = vlN T N p ∧ M' 200 18 = vlN T N p ∧ ¬ vlN T N p < lo ∧ vlN T N p ≤ hi ∧ fC1 (t + 1) (n * C + col) I I' ∧ fM1 a (hf + k) M M') := by
  have l := L_takes (J := J) (x := x) (J' := J') (x' := x') h lo hi ht hI hn hcI h1 h2 ht4
  unfold dd_X12_lays
  rcases l with ⟨I1, M1, r1, r2, r3, r4, r5, r6, r7, r8, r9, r10, r11⟩ | ⟨I1, M1, r1, r2, r3⟩
  · rw [m_rc, ob_s, r2, ob_s, if_neg n10, op_len ha, ob_s, if_neg (by decide), m_F18, ob_s, hd, hk, li_add, op_st _ ha rfl (show hf + k < 2 * hf by omega) (by omega), ob_s]
    refine Or.inl ⟨I1, ab_u M1 a (hf + k) (M1 200 18), r1, rfl, STT_uM r3 _ (by omega), r4, r5, ?_, ?_, r7, r8, r9, fun r p1 p2 => ?_, fun i hi => ?_, fun q p1 p2 => ?_⟩
    · rw [u_e]; exact r6
    · rw [u_r (by omega)]; exact r6
    · rw [u_r p2]; exact r10 r p1
    · rw [u_k hi, r10 a (by omega)]
    · rw [u_r (by omega)]; exact r11 q p1 p2
  · rw [m_rc, ob_s, r2, ob_s, if_pos rfl]
    exact Or.inr ⟨I1, M1, r1, rfl, r3⟩
/-- a setting is laid -/
theorem L_sets (h : STT T N p I0 M0 I M) {col : Nat} {cI wI : Int32} (lo hi : Int32) (hn : I 13 3 = nI 0) (hcI : cI = nI col) (h2 : col < 3) (hwI : wI = nI (4 + col)) : LK I0 M0 J x J' x' (dd_X7_puts 1 13 cI lo hi (S0, I, J, x)) (dd_X12_sets 200 wI lo hi (S0, M, J', x')) (fun I' M' => STT T N (nxt T N p) I0 M0 I' M' ∧ tk T N p = 2 ∧ I' 14 col = vlN T N p ∧ M' 202 (11 + col) = vlN T N p ∧ ¬ vlN T N p < lo ∧ vlN T N p ≤ hi ∧ fC1 14 col I I' ∧ fM1 202 (11 + col) M M') := by
  have tb12 : tb 13 1 3 := ⟨rfl, rfl, by decide, by decide⟩
  have l := L_takes (J := J) (x := x) (J' := J') (x' := x') h lo hi tb12 h.2.2.2.1.2.2.2.2.2.2.2 hn hcI (by omega) h2 (by omega)
  simp only [Nat.zero_mul, Nat.zero_add] at l
  unfold dd_X12_sets
  rcases l with ⟨I1, M1, r1, r2, r3, r4, r5, r6, r7, r8, r9, r10, r11⟩ | ⟨I1, M1, r1, r2, r3⟩
  · have e7 : (7 : Int32) + nI (4 + col) = nI (11 + col) := by
      show nI 7 + nI (4 + col) = _
      rw [li_add]; exact congrArg nI (by omega)
    rw [m_rc, ob_s, r2, ob_s, if_neg n10, m_R2, ob_s, m_F18, ob_s, hwI, e7, op_st _ sh_200 rfl (show 11 + col < 14 by omega) (by omega), ob_s]
    refine Or.inl ⟨I1, ab_u M1 202 (11 + col) (M1 200 18), r1, rfl, STT_uM r3 _ (by omega), r4, r5, ?_, r7, r8, r9, fun r p1 p2 => ?_, fun i hi => ?_, fun q p1 p2 => ?_⟩
    · rw [u_e]; exact r6
    · rw [u_r p2]; exact r10 r p1
    · rw [u_k hi, r10 202 (by omega)]
    · rw [u_r (by omega)]; exact r11 q p1 p2
  · rw [m_rc, ob_s, r2, ob_s, if_pos rfl]
    exact Or.inr ⟨I1, M1, r1, rfl, r3⟩
/-- a statement that adds a row begins -/
theorem L_opens (h : STT T N p I0 M0 I M) {t R C n w : Nat} {wI mI : Int32} (ht : tb t R C) (hI : tI I t R C) (hn : I t 3 = nI n) (hnR : n ≤ R) (hR : R < 100) (hm : M 202 (7 + w) = nI n) (hwI : wI = nI w) (hw : w < 4) (hmI : mI = nI R) : LK I0 M0 J x J' x' (dd_X7_opens 1 t (S0, I, J, x)) (dd_X12_oneMore 200 wI mI (S0, M, J', x')) (fun I' M' => STT T N (nxt T N p) I0 M0 I' M' ∧ n < R ∧ adC I I' ∧ adM M M') := by
  have f4 := L_failb (J := J) (x := x) (J' := J') (x' := x') h (c := 4) (by decide)
  have e7 : (7 : Int32) + nI w = nI (7 + w) := by
    show nI 7 + nI w = _
    rw [li_add]
  unfold dd_X7_opens dd_X12_oneMore
  rw [rc_X10 ht.1, ob_s, tb_isFull ht.1, ob_s, hn, hI.1, m_R2, ob_s, hwI, e7, m_told (by omega), ob_s, hm, hmI]
  by_cases c : n < R
  · dsimp only
    rw [show (if nI n < nI R then (0 : Int32) else 1) = 0 from if_pos (by rw [li_lt (by omega) (by omega)]; exact c), if_pos rfl, if_neg (by rw [li_le (by omega) (by omega)]; omega), r_rc, ob_s, bb_X12_oneMore_20, m_rc, ob_s]
    obtain ⟨I', M', r1, r2, r3, r4, r5⟩ := L_adv (J := J) (x := x) (J' := J') (x' := x') h
    unfold dd_X12_starts
    rw [if_neg n10, m_rc, ob_s, r1, r2, ob_s, ob_s, ob_s]
    dsimp only
    rw [if_neg (by decide)]
    exact Or.inl ⟨I', M', rfl, rfl, r3, c, r4, r5⟩
  · dsimp only
    rw [show (if nI n < nI R then (0 : Int32) else 1) = 1 from if_neg (by rw [li_lt (by omega) (by omega)]; exact c), if_neg n10, if_pos (by rw [li_le (by omega) (by omega)]; omega), r_rc, ob_s, bb_X12_oneMore_20, m_rc, ob_s]
    unfold dd_X12_starts
    rw [if_pos rfl, m_rc, ob_s]
    obtain ⟨I', M', h1, h2, h3⟩ := L_fail (J := J) (x := x) (J' := J') (x' := x') h (c := 4) (by decide)
    rw [h1, h2, ob_s, ob_s]
    dsimp only
    rw [if_neg (by decide), if_neg (by decide), ob_s]
    dsimp only
    rw [if_neg (by decide)]
    exact Or.inr ⟨I', M', rfl, rfl, h3⟩
theorem sn_all : ∀ b, b < 4 → ∀ s, s < 16 → ((nI s &&& nI (2 ^ b) = 0) = (s.testBit b = false)) ∧ ((nI s >>> (nI b &&& 31)) &&& 1 = (if s.testBit b then 1 else 0)) ∧ (1 : Int32) <<< (nI b &&& 31) = nI (2 ^ b) ∧ s ||| 2 ^ b < 16 := by decide +kernel
/-- a statement that can occur once begins -/
theorem L_first (h : STT T N p I0 M0 I M) {b s : Nat} {cI bI : Int32} (hb : b < 4) (hs : s < 16) (h1 : I 1 10 = nI s) (h2 : M 200 19 = nI s) (hcI : cI = nI (2 ^ b)) (hbI : bI = nI b) : LK I0 M0 J x J' x' (dd_X7_isFirst 1 cI (S0, I, J, x)) (dd_X12_once 200 bI (S0, M, J', x')) (fun I' M' => STT T N (nxt T N p) I0 M0 I' M' ∧ I' 1 10 = nI (s ||| 2 ^ b) ∧ M' 200 19 = nI (s ||| 2 ^ b) ∧ (∀ r, r ≠ 1 → I' r = I r) ∧ (∀ r, r ≠ 200 → M' r = M r) ∧ M' 200 20 = M 200 20) := by
  have al := sn_all b hb s hs
  have hh : dd_X12_has (nI s) (nI b) (S0, M, J', x') = some (if s.testBit b then 1 else 0, (S0, M, J', x')) := by
    unfold dd_X12_has
    rw [al.2.1]
    cases s.testBit b <;> rfl
  unfold dd_X7_isFirst dd_X12_once
  rw [fI_X7_10 okR, ob_s, ob_s, m_F19, ob_s, h1, h2, hcI, hbI, hh, ob_s]
  by_cases c : s.testBit b = true
  · rw [if_neg (by rw [al.1, c]; decide), c]
    simp only [if_true]
    rw [if_neg n10, r_rc, ob_s, bb_X12_once_18, m_rc, ob_s]
    unfold dd_X12_starts
    rw [if_pos rfl, m_rc, ob_s]
    obtain ⟨I', M', q1, q2, q3⟩ := L_fail (J := J) (x := x) (J' := J') (x' := x') h (c := 2) (by decide)
    rw [q1, q2, ob_s, ob_s]
    dsimp only
    rw [if_neg (by decide), if_neg (by decide), ob_s]
    exact Or.inr ⟨I', M', rfl, if_pos rfl, q3⟩
  · have c' : s.testBit b = false := by simpa using c
    have h' : STT T N p I0 M0 (ab_u I 1 10 (nI (s ||| 2 ^ b))) M := STT_uC h _ (by omega)
    obtain ⟨I', M', r1, r2, r3, r4, r5⟩ := L_adv (J := J) (x := x) (J' := J') (x' := x') h'
    have e19 : M' 200 19 = nI s := by rw [r5.2 19 (by omega)]; exact h2
    rw [if_pos (by rw [al.1]; exact c'), c', li_or, pI_X7_10 okR, ob_s, r_rc, ob_s, r1, ob_s]
    simp only [Bool.false_eq_true, if_false, if_true]
    rw [bb_X12_once_18, m_rc, ob_s]
    unfold dd_X12_starts
    rw [if_neg n10, m_rc, ob_s, r2, ob_s, ob_s, if_neg n10, m_F19, ob_s, e19, al.2.2.1, li_or, pI_X12_19 okM, ob_s]
    exact Or.inl ⟨I', ab_u M' 200 19 (nI (s ||| 2 ^ b)), rfl, rfl, STT_uM r3 _ (by omega), by rw [r4.2 10 (by omega) (by omega) (by omega), u_e], u_e, fun r hr => by rw [r4.1 r hr, u_r hr], fun r hr => by rw [u_r hr]; exact r5.1 r hr, by rw [u_k (by omega), r5.2 20 (by omega)]⟩
/-- a sign is taken -/
theorem L_sign (h : STT T N p I0 M0 I M) {c : Int32} (hc : sor c = 4) : LK I0 M0 J x J' x' (dd_X7_takes 1 c (S0, I, J, x)) (dd_X12_closes 200 c (S0, M, J', x')) (fun I' M' => STT T N (nxt T N p) I0 M0 I' M' ∧ tk T N p = 4 ∧ adC I I' ∧ adM M M') := by
  unfold dd_X7_takes dd_X12_closes
  rw [r_f8, ob_s, h.1.2.2.2.2, m_rc, ob_s, m_signHere h.2.1, ob_s]
  by_cases e : tk T N p = 4 ∧ T (stt T N p) = c
  · rw [if_pos (by rw [kdC_sg hc]; exact e), if_pos e, if_neg n10, r_rc, ob_s, m_rc, ob_s]
    obtain ⟨I', M', r1, r2, r3, r4, r5⟩ := L_adv (J := J) (x := x) (J' := J') (x' := x') h
    rw [r1, r2, ob_s, ob_s]
    exact Or.inl ⟨I', M', rfl, rfl, r3, e.1, r4, r5⟩
  · rw [if_neg (by rw [kdC_sg hc]; exact e), if_neg e, if_pos rfl, r_rc, ob_s, m_rc, ob_s]
    obtain ⟨I', M', q1, q2, q3⟩ := L_fail (J := J) (x := x) (J' := J') (x' := x') h (c := 1) (by decide)
    rw [q1, q2, ob_s, ob_s]
    dsimp only
    rw [if_neg (by decide), if_neg (by decide)]
    exact Or.inr ⟨I', M', rfl, rfl, q3⟩
end PR
