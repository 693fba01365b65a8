/-! ===== writes of the class: what they leave ===== -/
theorem u_e {α : Type} {I : Nat → Nat → α} {r k : Nat} {v : α} : ab_u I r k v r k = v := if_pos ⟨rfl, rfl⟩
theorem u_r {α : Type} {I : Nat → Nat → α} {r k a : Nat} {v : α} (h : a ≠ r) : ab_u I r k v a = I a := by
  funext b
  exact if_neg (fun q => h q.1)
theorem u_k {α : Type} {I : Nat → Nat → α} {r k b : Nat} {v : α} (h : b ≠ k) : ab_u I r k v r b = I r b := if_neg (fun q => h q.2)
/-- only the cells of a situation differ -/
def onl (s : Nat) (I I' : Nat → Nat → Int32) : Prop := ∀ r, r < s ∨ s + 10 ≤ r → I' r = I r
theorem onl_refl (s : Nat) (I : Nat → Nat → Int32) : onl s I I := fun _ _ => rfl
theorem onl_trans {s : Nat} {I I' I'' : Nat → Nat → Int32} (h : onl s I I') (h' : onl s I' I'') : onl s I I'' := fun r hr => (h' r hr).trans (h r hr)
theorem onl_u {s r k : Nat} {I I' : Nat → Nat → Int32} {v : Int32} (h : onl s I I') (h1 : s ≤ r) (h2 : r < s + 10) : onl s I (ab_u I' r k v) := fun a ha => by
  rw [u_r (by omega)]
  exact h a ha
section WR
variable {I : Nat → Nat → Int32} {J : Nat → Nat → Int64} {x : Nat} {NH NY NE NR s : Nat} {f : Nat → Int64}
theorem siI_u {r k : Nat} {v : Int32} (h : siI I s) (hr : (r ≠ s + 1 ∧ r ≠ s + 3 ∧ r ≠ s + 5 ∧ r ≠ s + 7) ∨ k = 3) : siI (ab_u I r k v) s := by
  obtain ⟨⟨a1, a2⟩, ⟨b1, b2⟩, ⟨c1, c2⟩, ⟨d1, d2⟩⟩ := h
  unfold siI tI ab_u
  refine ⟨⟨?_, ?_⟩, ⟨?_, ?_⟩, ⟨?_, ?_⟩, ⟨?_, ?_⟩⟩ <;> rw [if_neg (by omega)] <;> assumption
theorem clI_onl {I' : Nat → Nat → Int32} (h : clI I 18) (ho : onl s I I') (h31 : 32 ≤ s) : clI I' 18 := by
  unfold clI tI at h ⊢
  rw [ho (18 + 1) (by omega), ho (18 + 3) (by omega), ho (18 + 5) (by omega), ho (18 + 7) (by omega), ho (18 + 9) (by omega)]
  exact h
/-- a load added -/
def ldU (I : Nat → Nat → Int32) (s h : Nat) (a b : Int32) : Nat → Nat → Int32 := ab_u (ab_u I (s + 7 + 1) (h * 2 + 0) (gl I s h 0 + a)) (s + 7 + 1) (h * 2 + 1) (gl I s h 1 + b)
theorem si_load (hs : siT s) (h31 : 32 ≤ s) (hI : siI I s) (hC : clI I 18) {i y h : Nat} (hi : i < 12) (ey : gi I s i 1 = nI y) (hy : y < 6) (eh : gi I s i 3 = nI h) (hh : h < 8) (t : Int32) : dd_X8_load s 18 (nI i) t (S0, I, J, x) = some ((), (S0, ldU I s h (t * gt I 18 y 0) (t * gt I 18 y 1), J, x)) := by
  unfold dd_X8_load ldU
  simp only [fR_X8_2 hs.1, fR_X8_5 hs.1, ob_s, rc_X10 hs.2.1.1, rc_X10 hs.2.2.2.2.1.1, si_get hs hI rfl (li_n 1) hi (by omega : 1 < 6), si_get hs hI rfl (li_n 3) hi (by omega : 3 < 6), fR_X1_1 cl17.1, rc_X10 cl17.2.2.1.1, cl_gett cl17 hC ey li_0 hy (by omega : 0 < 3)]
  rw [tb_add _ hs.2.2.2.2.1 hI.2.2.2 eh li_0 hh (by omega), ob_s]
  have hC' : clI (ab_u I (s + 7 + 1) (h * 2 + 0) (I (s + 7 + 1) (h * 2 + 0) + t * gt I 18 y 0)) 18 := clI_onl hC (onl_u (onl_refl s I) (by omega) (by omega)) h31
  have hI' : siI (ab_u I (s + 7 + 1) (h * 2 + 0) (I (s + 7 + 1) (h * 2 + 0) + t * gt I 18 y 0)) s := siI_u hI (Or.inl (by omega))
  simp only [ob_s, fR_X8_5 hs.1, fR_X1_1 cl17.1, rc_X10 cl17.2.2.1.1, cl_gett cl17 hC' ey (li_n 1) hy (by omega : 1 < 3), rc_X10 hs.2.2.2.2.1.1]
  rw [tb_add _ hs.2.2.2.2.1 hI'.2.2.2 eh (li_n 1) hh (by omega)]
  have e1 : gt (ab_u I (s + 7 + 1) (h * 2 + 0) (I (s + 7 + 1) (h * 2 + 0) + t * gt I 18 y 0)) 18 y 1 = gt I 18 y 1 := by
    unfold gt
    rw [u_r (by omega)]
  rw [e1, u_k (by omega)]
  rfl
theorem si_end (hs : siT s) (h31 : 32 ≤ s) (hI : siI I s) (hC : clI I 18) {i y h : Nat} (hi : i < 12) (ey : gi I s i 1 = nI y) (hy : y < 6) (eh : gi I s i 3 = nI h) (hh : h < 8) : dd_X8_end s 18 (nI i) (S0, I, J, x) = some ((), (S0, ab_u (ldU I s h (-1 * gt I 18 y 0) (-1 * gt I 18 y 1)) s 1 (I s 1 &&& (((1 : Int32) <<< (nI i &&& 31)) ^^^ (-1))), J, x)) := by
  unfold dd_X8_end
  simp only [rc_X8 hs.1, ob_s, si_load hs h31 hI hC hi ey hy eh hh, fI_X8_1 hs.1, pI_X8_1 hs.1]
  have e : ldU I s h (-1 * gt I 18 y 0) (-1 * gt I 18 y 1) s = I s := by
    unfold ldU
    rw [u_r (by omega), u_r (by omega)]
  rw [e]
/-- the least number that is free -/
def lof (f : Nat → Int64) : Option Nat := fd (fun i => !rn f i) 0 12
theorem si_lowest (hs : siT s) (h : sr I NY s f) {i : Nat} (hi : lof f = some i) : dd_X8_lowestFree s (S0, I, J, x) = some (nI i, (S0, I, J, x)) := by
  have ⟨_, q2, q3, q4⟩ := fd_some hi
  unfold dd_X8_lowestFree
  have key := lp_fd (fun n k => bb_X8_lowestFree_2 n s k (S0, I, J, x)) 11 (by omega) (fun i => !rn f i) (fun r => some (nI r, (S0, I, J, x))) (some (nI 11, (S0, I, J, x))) (fun n j hj => by
    rw [bb_X8_lowestFree_2, if_neg (by rw [li_n 11, li_le (by omega) (by omega)]; omega), rc_X8 hs.1, ob_s, si_runsN hs (by omega), ob_s, sr_ru h (by omega)]
    simp only [bo_if]
    cases rn f j <;> rfl) (fun n => by
    rw [bb_X8_lowestFree_2, if_pos (by decide)]; rfl)
  refine key.trans ?_
  by_cases e : i = 11
  · subst e
    rw [fd_no (fun j _ hj => q4 j (by omega) (by omega))]
  · rw [fd_is (r := i) (by omega) (by omega) q3 (fun j _ hj => q4 j (by omega) hj)]
theorem si_full (hs : siT s) (h : sr I NY s f) : dd_X8_isFull s (S0, I, J, x) = some (if cn (rn f) 12 < 12 then 0 else 1, (S0, I, J, x)) := by
  unfold dd_X8_isFull
  have := cn_le (rn f) 12
  rw [fI_X8_1 hs.1, ob_s, h.2.2.1, bc_sets, ob_s]
  show (if nI (cn (rn f) 12) < 12 then _ else _) = _
  by_cases h1 : cn (rn f) 12 < 12
  · rw [if_pos (by rw [li_n 12, li_lt (by omega) (by omega)]; exact h1), if_pos h1]; rfl
  · rw [if_neg (by rw [li_n 12, li_lt (by omega) (by omega)]; exact h1), if_neg h1]; rfl
/-- an instance's row written -/
def rwU (I : Nat → Nat → Int32) (s i : Nat) (e y b h k : Int32) : Nat → Nat → Int32 :=
  ab_u (ab_u (ab_u (ab_u (ab_u (ab_u I (s + 1 + 1) (i * 6 + 0) e) (s + 1 + 1) (i * 6 + 1) y) (s + 1 + 1) (i * 6 + 2) b) (s + 1 + 1) (i * 6 + 3) h) (s + 1 + 1) (i * 6 + 4) (-1)) (s + 1 + 1) (i * 6 + 5) k
theorem si_start (hs : siT s) (h31 : 32 ≤ s) (hI : siI I s) (hC : clI I 18) (hr : sr I NY s f) {i y h : Nat} (hl : lof f = some i) (e b : Int32) (hy : y < 6) (hh : h < 8) : dd_X8_start s 18 e (nI y) b (nI h) (S0, I, J, x) = some (nI i, (S0, ldU (rwU (ab_u I s 1 (I s 1 ||| ((1 : Int32) <<< (nI i &&& 31)))) s i e (nI y) b (nI h) (I s 0)) s h (gt I 18 y 0) (gt I 18 y 1), J, x)) := by
  have hi : i < 12 := by have := fd_some hl; omega
  unfold dd_X8_start
  have g1 : siI (ab_u I s 1 (I s 1 ||| ((1 : Int32) <<< (nI i &&& 31)))) s := siI_u hI (Or.inl (by omega))
  simp only [rc_X8 hs.1, ob_s, si_lowest hs hr hl, fI_X8_1 hs.1, pI_X8_1 hs.1, fR_X8_2 hs.1, rc_X10 hs.2.1.1]
  rw [tb_set _ hs.2.1 g1.1 rfl li_0 hi (by omega), ob_s]
  have g2 := siI_u (r := s + 1 + 1) (k := i * 6 + 0) (v := e) g1 (Or.inl (by omega))
  simp only [ob_s, fR_X8_2 hs.1, rc_X10 hs.2.1.1]
  rw [tb_set _ hs.2.1 g2.1 rfl (li_n 1) hi (by omega), ob_s]
  have g3 := siI_u (r := s + 1 + 1) (k := i * 6 + 1) (v := nI y) g2 (Or.inl (by omega))
  simp only [ob_s, fR_X8_2 hs.1, rc_X10 hs.2.1.1]
  rw [tb_set _ hs.2.1 g3.1 rfl (li_n 2) hi (by omega), ob_s]
  have g4 := siI_u (r := s + 1 + 1) (k := i * 6 + 2) (v := b) g3 (Or.inl (by omega))
  simp only [ob_s, fR_X8_2 hs.1, rc_X10 hs.2.1.1]
  rw [tb_set _ hs.2.1 g4.1 rfl (li_n 3) hi (by omega), ob_s]
  have g5 := siI_u (r := s + 1 + 1) (k := i * 6 + 3) (v := nI h) g4 (Or.inl (by omega))
  simp only [ob_s, fR_X8_2 hs.1, rc_X10 hs.2.1.1]
  rw [tb_set _ hs.2.1 g5.1 rfl (li_n 4) hi (by omega), ob_s]
  have g6 := siI_u (r := s + 1 + 1) (k := i * 6 + 4) (v := -1) g5 (Or.inl (by omega))
  simp only [ob_s, fR_X8_2 hs.1, rc_X10 hs.2.1.1, fI_X8_0 hs.1]
  rw [tb_set _ hs.2.1 g6.1 rfl (li_n 5) hi (by omega), ob_s]
  simp (disch := omega) only [ob_s, rc_X8 hs.1, u_r, u_k]
  have g7 : siI (rwU (ab_u I s 1 (I s 1 ||| ((1 : Int32) <<< (nI i &&& 31)))) s i e (nI y) b (nI h) (I s 0)) s := siI_u (r := s + 1 + 1) (k := i * 6 + 5) (v := I s 0) g6 (Or.inl (by omega))
  have o7 : onl s I (rwU (ab_u I s 1 (I s 1 ||| ((1 : Int32) <<< (nI i &&& 31)))) s i e (nI y) b (nI h) (I s 0)) := by
    unfold rwU
    exact onl_u (onl_u (onl_u (onl_u (onl_u (onl_u (onl_u (onl_refl s I) (by omega) (by omega)) (by omega) (by omega)) (by omega) (by omega)) (by omega) (by omega)) (by omega) (by omega)) (by omega) (by omega)) (by omega) (by omega)
  have c7 := clI_onl hC o7 h31
  show (dd_X8_load s 18 (nI i) 1 (S0, rwU (ab_u I s 1 (I s 1 ||| ((1 : Int32) <<< (nI i &&& 31)))) s i e (nI y) b (nI h) (I s 0), J, x)).bind _ = _
  rw [si_load hs h31 g7 c7 hi (y := y) (h := h) (by unfold rwU gi; simp (disch := omega) only [u_e, u_r, u_k]) hy (by unfold rwU gi; simp (disch := omega) only [u_e, u_r, u_k]) hh]
  have e0 : ∀ w, gt (rwU (ab_u I s 1 (I s 1 ||| ((1 : Int32) <<< (nI i &&& 31)))) s i e (nI y) b (nI h) (I s 0)) 18 y w = gt I 18 y w := fun w => by
    unfold gt
    rw [o7 _ (by omega)]
  rw [e0, e0, Int32.one_mul, Int32.one_mul]
  rfl
theorem si_give (hs : siT s) (hI : siI I s) (hC : clI I 18) {i : Nat} (hi : i < 12) : dd_X8_giveNotice s 18 (nI i) (S0, I, J, x) = some ((), (S0, ab_u I (s + 1 + 1) (i * 6 + 4) (I s 0 + gg I 18 1), J, x)) := by
  unfold dd_X8_giveNotice
  simp only [fR_X8_2 hs.1, fI_X8_0 hs.1, ob_s, fR_X1_4 cl17.1, rc_X10 cl17.2.2.2.2.2.1.1, cl_getg cl17 hC rfl (li_n 1) (by omega : 1 < 3), rc_X10 hs.2.1.1]
  rw [tb_set _ hs.2.1 hI.1 rfl (li_n 4) hi (by omega)]
  rfl
end WR
