/-! ===== bills: the class reckons what the model reckons ===== -/
/-- the same rows from lo to hi -/
def sam (lo hi : Nat) (I I' : Nat → Nat → Int32) : Prop := ∀ r, lo ≤ r → r < hi → I' r = I r
theorem sam_refl {lo hi : Nat} {I : Nat → Nat → Int32} : sam lo hi I I := fun _ _ _ => rfl
theorem sam_trans {lo hi : Nat} {I I' I'' : Nat → Nat → Int32} (h : sam lo hi I I') (h' : sam lo hi I' I'') : sam lo hi I I'' := fun r h1 h2 => (h' r h1 h2).trans (h r h1 h2)
theorem sam_u {lo hi r k : Nat} {v : Int32} {I I' : Nat → Nat → Int32} (h : sam lo hi I I') (hr : r < lo ∨ hi ≤ r) : sam lo hi I (ab_u I' r k v) := fun a h1 h2 => by
  rw [u_r (by omega)]
  exact h a h1 h2
section BI
variable {I I' : Nat → Nat → Int32} {J : Nat → Nat → Int64} {x : Nat} {NH NY NE NR s : Nat} {f f' : Nat → Int64}
theorem sr_sam (h : sr I NY s f) (h1 : sam s (s + 10) I I') (h2 : I' 204 = I 204) : sr I' NY s f := by
  unfold sr siI tI gi gp gl gq lod mt at h ⊢
  rw [h1 s (by omega) (by omega), h1 (s + 1) (by omega) (by omega), h1 (s + 3) (by omega) (by omega), h1 (s + 5) (by omega) (by omega), h1 (s + 7) (by omega) (by omega), h1 (s + 1 + 1) (by omega) (by omega), h1 (s + 5 + 1) (by omega) (by omega), h1 (s + 7 + 1) (by omega) (by omega), h1 (s + 3 + 1) (by omega) (by omega), h2]
  exact h
theorem clR_sam (hl : clR I NH NY NE NR) (h1 : sam 18 32 I I') (h2 : sam 201 207 I I') : clR I' NH NY NE NR := by
  unfold clR clI tI gh gt ge gr gg mh mt mr at hl ⊢
  simp only [Nat.reduceAdd] at hl ⊢
  rw [h1 19 (by omega) (by omega), h1 21 (by omega) (by omega), h1 23 (by omega) (by omega), h1 25 (by omega) (by omega), h1 27 (by omega) (by omega), h1 20 (by omega) (by omega), h1 22 (by omega) (by omega), h1 24 (by omega) (by omega), h1 26 (by omega) (by omega), h1 28 (by omega) (by omega), h2 202 (by omega) (by omega), h2 203 (by omega) (by omega), h2 204 (by omega) (by omega), h2 205 (by omega) (by omega), h2 206 (by omega) (by omega)]
  exact hl
theorem mc_sam (hc : mc I NH NY NE NR) (h2 : sam 201 207 I I') : mc I' NH NY NE NR := by
  unfold mc at hc ⊢
  rw [h2 202 (by omega) (by omega)]
  exact hc
theorem mrg_sam (hg : mrg I NH NY NE NR) (h2 : sam 201 207 I I') : mrg I' NH NY NE NR := by
  unfold mrg re ry mh mt mr at hg ⊢
  rw [h2 202 (by omega) (by omega), h2 203 (by omega) (by omega), h2 204 (by omega) (by omega), h2 205 (by omega) (by omega), h2 206 (by omega) (by omega)]
  exact hg
theorem wff_sam (hw : wff I NH NY NE f) (h2 : sam 201 207 I I') : wff I' NH NY NE f := by
  obtain ⟨w1, w2, w3, w4, w5, w6, w7⟩ := hw
  refine ⟨w1, w2, w3, w4, w5, w6, fun h hh w hw => ?_⟩
  rw [fre_I (h2 203 (by omega) (by omega)) (h2 204 (by omega) (by omega))]
  exact w7 h hh w hw
theorem mact_I (h : I' 206 = I 206) (f : Nat → Int64) (r : Nat) : mact I' f r = mact I f r := by
  unfold mact mr
  rw [h]
theorem mpay_I (h : I' 206 = I 206) (h2 : I' 204 = I 204) (r : Nat) : mpay I' r = mpay I r := by
  unfold mpay ry mr mt
  rw [h, h2]
theorem mr_I (h : I' 206 = I 206) (r w : Nat) : mr I' r w = mr I r w := by
  unfold mr
  rw [h]
theorem okB : ok_X0 175 := rfl
theorem tbD : tb 176 6 1 := ⟨rfl, rfl, by decide, by decide⟩
theorem tbV : tb 178 6 6 := ⟨rfl, rfl, by decide, by decide⟩
def bI (I : Nat → Nat → Int32) : Prop := tI I 176 6 1 ∧ tI I 178 6 6
def onB (I I' : Nat → Nat → Int32) : Prop := ∀ r, r < 176 ∨ 180 ≤ r → I' r = I r
theorem onB_u {r k : Nat} {v : Int32} (h : onB I I') (h1 : 176 ≤ r) (h2 : r < 180) : onB I (ab_u I' r k v) := fun a ha => by
  rw [u_r (by omega)]
  exact h a ha
theorem bI_u {r k : Nat} {v : Int32} (h : bI I) (hr : (r ≠ 176 ∧ r ≠ 178) ∨ k = 3) : bI (ab_u I r k v) := by
  obtain ⟨⟨a1, a2⟩, ⟨b1, b2⟩⟩ := h
  unfold bI tI ab_u
  refine ⟨⟨?_, ?_⟩, ⟨?_, ?_⟩⟩ <;> rw [if_neg (by omega)] <;> assumption
/-- what reservations ask and cover, of the first n -/
def rpS (I : Nat → Nat → Int32) (f : Nat → Int64) (e n : Nat) : Int32 := sm (fun r => if mr I r 0 = nI e ∧ mact I f r = true then mpay I r else 0) n
def rP (I : Nat → Nat → Int32) (f : Nat → Int64) (I0 : Nat → Nat → Int32) (j : Nat) (I' : Nat → Nat → Int32) : Prop := onB I0 I' ∧ bI I' ∧ (∀ e, e < 6 → I' 177 (e * 1 + 0) = rpS I f e j) ∧ (∀ e, e < 6 → ∀ y, y < 6 → I' 179 (e * 6 + y) = mrsv I f j e y)
theorem onB_sam (h : onB I I') {lo hi : Nat} (hl : hi ≤ 176 ∨ 180 ≤ lo) : sam lo hi I I' := fun r h1 h2 => h r (by omega)
theorem rk_step (hc : mc I NH NY NE NR) (hg : mrg I NH NY NE NR) (hl : clR I NH NY NE NR) (ht : siT s) (h31 : 32 ≤ s) (hs : s < 166) (hr : sr I NY s f) (n j : Nat) (hj : j < NR) (hP : rP I f I j I') :
    ∃ I'', bb_X0_reckon_16 (n + 1) 175 18 s (nI j) (S0, I', J, x) = bb_X0_reckon_16 n 175 18 s (nI j + 1) (S0, I'', J, x) ∧ rP I f I (j + 1) I'' := by
  obtain ⟨o, b, p1, p2⟩ := hP
  have h8 := hc.2.2.2.2
  have h6 := hc.2.2.1
  have h6e := hc.2.2.2.1
  have hj8 : j < 8 := by omega
  have s2 : sam 201 207 I I' := onB_sam o (by omega)
  have e204 : I' 206 = I 206 := s2 206 (by omega) (by omega)
  have e202 : I' 204 = I 204 := s2 204 (by omega) (by omega)
  have hl' := clR_sam hl (onB_sam o (by omega)) s2
  have hg' := mrg_sam hg s2
  have hr' := sr_sam hr (onB_sam o (by omega)) e202
  have hsz : I' (18 + 7) 3 = nI NR := hl'.2.1.2.2.2
  rw [bb_X0_reckon_16]
  simp only [fR_X1_3 cl17.1, ob_s, fI_X10_3 cl17.2.2.2.2.1.1, hsz]
  rw [if_neg (by rw [li_le (by omega) (by omega)]; omega)]
  simp only [fI_X8_0 ht.1, ob_s, rc_X1 cl17.1, cl_act cl17 hl'.1 (I' s 0) rfl hj8, bo_if]
  rw [hr'.2.1, cl_mact hl' hj, mact_I e204]
  cases ha : mact I f j with
  | false =>
    refine ⟨I', ?_, o, b, fun e he => ?_, fun e he y hy => ?_⟩
    · simp only [if_true]
      rfl
    · rw [p1 e he]
      unfold rpS
      rw [sm, if_neg (by rw [ha]; simp), Int32.add_zero]
    · rw [p2 e he y hy]
      unfold mrsv
      rw [sm, if_neg (by rw [ha]; simp), Int32.add_zero]
  | true =>
    have q := hg.2.2.2.1 j hj
    have q0 : gr I' 18 j 0 = nI (re I j) := (hl'.2.2.2.2.2.2.1 j hj 0 (by omega)).trans ((mr_I e204 j 0).trans q.1.1)
    have q1 : gr I' 18 j 1 = nI (ry I j) := (hl'.2.2.2.2.2.2.1 j hj 1 (by omega)).trans ((mr_I e204 j 1).trans q.2.1.1)
    have q2 : gr I' 18 j 2 = mr I j 2 := (hl'.2.2.2.2.2.2.1 j hj 2 (by omega)).trans (mr_I e204 j 2)
    have ery : ry I' j = ry I j := by unfold ry mr; rw [e204]
    have qp : payS I' 18 j (ry I j) = mpay I j := by rw [← ery, cl_mpay hl' hg' hj, mpay_I e204 e202]
    have he0 : re I j < 6 := by have := q.1.2; omega
    have hy0 : ry I j < 6 := by have := q.2.1.2; omega
    simp only [Bool.true_eq_false, if_false, fR_X1_3 cl17.1, ob_s, rc_X10 cl17.2.2.2.2.1.1, cl_getr cl17 hl'.1 rfl li_0 hj8 (by omega : 0 < 6), fR_X0_0 okB, rc_X1 cl17.1, cl_pay cl17 hl'.1 rfl hj8 q1 hy0, rc_X10 tbD.1, qp, q0]
    rw [tb_add _ tbD b.1 rfl li_0 he0 (by omega), ob_s]
    have o1 : onB I (ab_u I' (176 + 1) (re I j * 1 + 0) (I' (176 + 1) (re I j * 1 + 0) + mpay I j)) := onB_u o (by omega) (by omega)
    have b1 : bI (ab_u I' (176 + 1) (re I j * 1 + 0) (I' (176 + 1) (re I j * 1 + 0) + mpay I j)) := bI_u b (by omega)
    have e24 : ab_u I' (176 + 1) (re I j * 1 + 0) (I' (176 + 1) (re I j * 1 + 0) + mpay I j) 26 = I' 26 := u_r (by omega)
    have hl1 := clR_sam hl (onB_sam o1 (by omega)) (onB_sam o1 (by omega))
    have f1 : gr (ab_u I' (176 + 1) (re I j * 1 + 0) (I' (176 + 1) (re I j * 1 + 0) + mpay I j)) 18 j 1 = nI (ry I j) := (congrFun e24 _).trans q1
    have f2 : gr (ab_u I' (176 + 1) (re I j * 1 + 0) (I' (176 + 1) (re I j * 1 + 0) + mpay I j)) 18 j 2 = mr I j 2 := (congrFun e24 _).trans q2
    simp only [ob_s, fR_X0_1 okB, fR_X1_3 cl17.1, rc_X10 cl17.2.2.2.2.1.1, cl_getr cl17 hl1.1 rfl (li_n 1) hj8 (by omega : 1 < 6), cl_getr cl17 hl1.1 rfl (li_n 2) hj8 (by omega : 2 < 6), f1, f2, rc_X10 tbV.1]
    rw [tb_add _ tbV b1.2 rfl rfl he0 hy0, ob_s]
    refine ⟨_, rfl, onB_u o1 (by omega) (by omega), bI_u b1 (by omega), fun e he => ?_, fun e he y hy => ?_⟩
    · rw [u_r (by omega)]
      unfold rpS
      rw [sm]
      by_cases ee : e = re I j
      · rw [ee, u_e, if_pos ⟨q.1.1, ha⟩]
        exact congrArg (· + mpay I j) (p1 _ he0)
      · rw [u_k (by omega), if_neg (fun w => ee ?_), Int32.add_zero]
        · exact p1 e he
        · have := q.1.1.symm.trans w.1
          rw [li_eq (by omega) (by omega)] at this
          exact this.symm
    · unfold mrsv
      rw [sm]
      by_cases ee : e = re I j ∧ y = ry I j
      · rw [ee.1, ee.2, u_e, u_r (by omega), if_pos ⟨q.1.1, q.2.1.1, ha⟩]
        exact congrArg (· + mr I j 2) (p2 _ he0 _ hy0)
      · rw [u_k (by omega), u_r (by omega), if_neg (fun w => ee ?_), Int32.add_zero]
        · exact p2 e he y hy
        · have w0 := q.1.1.symm.trans w.1
          have w1 := q.2.1.1.symm.trans w.2.1
          rw [li_eq (by omega) (by omega)] at w0 w1
          exact ⟨w0.symm, w1.symm⟩
end BI
