/-! ===== an hour: what is due ends ===== -/
section DU
variable {I : Nat → Nat → Int32} {J : Nat → Nat → Int64} {x : Nat} {NH NY NE NR s : Nat} {f g : Nat → Int64}
def mnt (f : Nat → Int64) (i : Nat) : Int32 := (vi f i 4).toInt32
def isDue (f : Nat → Int64) (i : Nat) : Bool := rn f i && !decide (mnt f i = -1) && !decide (clk f < mnt f i)
def duS (j : Nat) (a : Int32 × (Nat → Int64)) : Int32 × (Nat → Int64) := if isDue a.2 j = true then (a.1 ||| ((1 : Int32) <<< (nI j &&& 31)), fu a.2 (14 + 6 * j + 0) (-1)) else a
def dueF (f : Nat → Int64) : Int32 × (Nat → Int64) := itr duS 0 12 (0, f)
/-- an ended instance leaves the others -/
theorem wfs_end (hw : wfs NH NY NE f) {i : Nat} : wfs NH NY NE (fu f (14 + 6 * i + 0) (-1)) := by
  intro j hj hr
  by_cases e : j = i
  · rw [e, rn_fu0] at hr; cases hr
  · have h : oi i f (fu f (14 + 6 * i + 0) (-1)) := oi_fu (oi_refl i f) (by omega)
    rw [oi_rn h e] at hr
    have q := hw j hj hr
    unfold wfi at q ⊢
    rw [oi_vi h e (by omega), oi_vi h e (by omega), oi_vi h e (by omega), oi_vi h e (by omega), oi_vi h e (by omega), oi_vi h e (by omega)]
    exact q
theorem duS_wfs {j : Nat} {a : Int32 × (Nat → Int64)} (hw : wfs NH NY NE a.2) : wfs NH NY NE (duS j a).2 := by
  unfold duS
  by_cases h : isDue a.2 j = true
  · rw [if_pos h]; exact wfs_end hw
  · rw [if_neg h]; exact hw
theorem duS_0 {j : Nat} {a : Int32 × (Nat → Int64)} : (duS j a).2 0 = a.2 0 := by
  unfold duS
  by_cases h : isDue a.2 j = true
  · rw [if_pos h]; exact fu_n (by omega)
  · rw [if_neg h]
theorem duS_t {j : Nat} {a : Int32} (h : isDue g j = true) : duS j (a, g) = (a ||| ((1 : Int32) <<< (nI j &&& 31)), fu g (14 + 6 * j + 0) (-1)) := if_pos h
theorem duS_f {j : Nat} {a : Int32} (h : isDue g j = false) : duS j (a, g) = (a, g) := if_neg (by rw [h]; decide)
abbrev ev (I : Nat → Nat → Int32) (v : Int32) : Nat → Nat → Int32 := ab_u I 200 27 v
theorem ev_ev (v w : Int32) : ev (ev I v) w = ev I w := by
  funext a b
  unfold ev ab_u
  by_cases h : a = 200 ∧ b = 27 <;> simp [h]
theorem m_F27 : ab_fI (S0, I, J, x) 12 200 27 = some (I 200 27) := fI_X12_27 okM
theorem m_P27 (v : Int32) : ab_pI (S0, I, J, x) 12 200 27 v = some (S0, ev I v, J, x) := pI_X12_27 okM v
theorem ev_at (v : Int32) : ev I v 200 27 = v := u_e
theorem m_runsJ {i : Nat} (h : i < 12) : dd_X12_runs 200 (nI i) (S0, I, jr J g, x) = some (if rn g i then 1 else 0, (S0, I, jr J g, x)) := m_runs h
theorem m_runsF {i : Nat} (h : i < 12) (hr : rn g i = false) : dd_X12_runs 200 (nI i) (S0, I, jr J g, x) = some (0, (S0, I, jr J g, x)) := by rw [m_runsJ h, hr]; rfl
theorem m_runsT {i : Nat} (h : i < 12) (hr : rn g i = true) : dd_X12_runs 200 (nI i) (S0, I, jr J g, x) = some (1, (S0, I, jr J g, x)) := by rw [m_runsJ h, hr]; rfl
theorem m_its0J {i : Nat} (h : i < 12) : dd_X12_its 200 (nI i) 0 (S0, I, jr J g, x) = some ((vi g i 0).toInt32, (S0, I, jr J g, x)) := m_its0 h
theorem m_its1J {i : Nat} (h : i < 12) : dd_X12_its 200 (nI i) 1 (S0, I, jr J g, x) = some ((vi g i 1).toInt32, (S0, I, jr J g, x)) := m_its1 h
theorem m_its2J {i : Nat} (h : i < 12) : dd_X12_its 200 (nI i) 2 (S0, I, jr J g, x) = some ((vi g i 2).toInt32, (S0, I, jr J g, x)) := m_its2 h
theorem m_its3J {i : Nat} (h : i < 12) : dd_X12_its 200 (nI i) 3 (S0, I, jr J g, x) = some ((vi g i 3).toInt32, (S0, I, jr J g, x)) := m_its3 h
theorem m_its4J {i : Nat} (h : i < 12) : dd_X12_its 200 (nI i) 4 (S0, I, jr J g, x) = some ((vi g i 4).toInt32, (S0, I, jr J g, x)) := m_its4 h
theorem m_viJ {i w : Nat} (h : i < 12) (hw : w < 6) : ab_ldJ (S0, I, jr J g, x) 201 (nI (14 + 6 * i + w)) = some (vi g i w) := m_vi h hw
theorem m_nowJ {j : Nat} (h : j < 116) : ab_ldJ (S0, I, jr J g, x) 201 (nI j) = some (g j) := m_now h
theorem m_n0J : ab_ldJ (S0, I, jr J g, x) 201 0 = some (g 0) := m_n0
theorem m_n1J : ab_ldJ (S0, I, jr J g, x) 201 1 = some (g 1) := m_n1
theorem m_snowJ {j : Nat} (v : Int64) (h : j < 116) : ab_stJ (S0, I, jr J g, x) 201 (nI j) v = some (S0, I, jr J (fu g j v), x) := by rw [m_snow v h, jr_u]
theorem n10 : ¬ (1 : Int32) = 0 := by decide
theorem m_dueS (hw : wfs NH NY NE g) (hk : isI (g 0)) (n j : Nat) (hj : j < 12) (a : Int32) : bb_X12_hour_53 (n + 1) 200 (nI j) (S0, ev I a, jr J g, x) = bb_X12_hour_53 n 200 (nI j + 1) (S0, ev I (duS j (a, g)).1, jr J (duS j (a, g)).2, x) := by
  rw [bb_X12_hour_53, if_neg (li_12 hj), m_rc, ob_s]
  by_cases hr : rn g j = false
  · have hd : isDue g j = false := by unfold isDue; rw [hr]; rfl
    rw [m_runsF hj hr, ob_s, if_pos rfl, duS_f hd, bb_X12_hour_122]
  · have hr' : rn g j = true := by simpa using hr
    rw [m_runsT hj hr', ob_s, if_neg n10, m_rc, ob_s, m_its4J hj, ob_s]
    by_cases h1 : mnt g j = -1
    · have h1' : (vi g j 4).toInt32 = -1 := h1
      have hd : isDue g j = false := by simp [isDue, h1]
      rw [if_pos h1', duS_f hd, bb_X12_hour_122]
    · have h1' : ¬ (vi g j 4).toInt32 = -1 := h1
      have h4 : isI (vi g j 4) := (hw j hj hr').2.2.2.2.1
      have hcmp : (0 < lg_cmp (vi g j 4) (g 0)) = (clk g < mnt g j) := by
        rw [lc_gt, h4, hk, j_lt]; rfl
      rw [if_neg h1', m_R1, ob_s, m_of4, ob_s, m_viJ hj (by omega), ob_s, m_R1, ob_s, m_n0J, ob_s]
      by_cases h2 : clk g < mnt g j
      · have hd : isDue g j = false := by simp [isDue, h2]
        rw [if_pos (hcmp ▸ h2), duS_f hd, bb_X12_hour_122]
      · have hd : isDue g j = true := by simp [isDue, hr', h1, h2]
        rw [if_neg (hcmp ▸ h2), duS_t hd, ob_s, m_of0, ob_s, m_snowJ _ (by omega), ob_s, m_F27, ob_s, m_P27, ob_s, bb_X12_hour_122, ev_at, ev_ev]
theorem itr_due_inv (hw : wfs NH NY NE f) : ∀ k, k ≤ 12 → wfs NH NY NE (itr duS 0 k (0, f)).2 ∧ (itr duS 0 k (0, f)).2 0 = f 0 := by
  intro k
  induction k with
  | zero => exact fun _ => ⟨hw, rfl⟩
  | succ k ih =>
    intro hk
    have q := ih (by omega)
    rw [itr_last]
    exact ⟨duS_wfs q.1, duS_0.trans q.2⟩
theorem si_due (ht : siT s) (h31 : 32 ≤ s) (hs : s < 181) (hc : mc I NH NY NE NR) (hl : clR I NH NY NE NR) (hw : wfs NH NY NE f) (hr : sr I NY s f) :
    ∃ I', dd_X8_endDue s 18 (S0, I, J, x) = some ((dueF f).1, (S0, I', J, x)) ∧ onl s I I' ∧ sr I' NY s (dueF f).2 := by
  have h8 := hc.2.1
  have h6 := hc.2.2.1
  obtain ⟨⟨a, I'⟩, n', e, ha, ho, hsr⟩ := lp_ex0 (fun n k (z : Int32 × (Nat → Nat → Int32)) => bb_X8_endDue_4 n s 18 z.1 k (S0, z.2, J, x)) 12 (by omega) (fun j z => z.1 = (itr duS 0 j (0, f)).1 ∧ onl s I z.2 ∧ sr z.2 NY s (itr duS 0 j (0, f)).2) (fun n j z hj hP => by
    obtain ⟨p1, p2, p3⟩ := hP
    have hw' := (itr_due_inv hw j (by omega)).1
    have hl' := clR_onl hl p2 h31 hs
    have hc' := mc_onl hc p2 hs
    show ∃ a' : Int32 × (Nat → Nat → Int32), bb_X8_endDue_4 (n + 1) s 18 z.1 (nI j) (S0, z.2, J, x) = bb_X8_endDue_4 n s 18 a'.1 (nI j + 1) (S0, a'.2, J, x) ∧ _
    rw [itr_last, Nat.zero_add]
    generalize itr duS 0 j (0, f) = y at p1 p3 hw' ⊢
    obtain ⟨ya, yf⟩ := y
    rw [bb_X8_endDue_4, if_neg (li_12 hj), fR_X8_2 ht.1, ob_s, rc_X10 ht.2.1.1, ob_s, si_get ht p3.1 rfl (li_n 4) hj (by omega), ob_s, rc_X8 ht.1, ob_s, si_runsN ht hj, ob_s, sr_ru p3 hj]
    by_cases hrf : rn yf j = false
    · have hd : isDue yf j = false := by unfold isDue; rw [hrf]; rfl
      rw [duS_f hd]
      exact ⟨z, by rw [hrf]; rfl, p1, p2, p3⟩
    · have hrn : rn yf j = true := by simpa using hrf
      have q := p3.2.2.2.1 j hj hrn
      have w := hw' j hj hrn
      have e4 : gi z.2 s j 4 = mnt yf j := q.2.2.2.2.1
      rw [hrn, e4]
      simp only [if_true]
      rw [if_neg n10]
      by_cases h1 : mnt yf j = -1
      · have hd : isDue yf j = false := by simp [isDue, h1]
        rw [duS_f hd]
        exact ⟨z, by rw [if_pos h1, bb_X8_endDue_56], p1, p2, p3⟩
      · rw [if_neg h1, fI_X8_0 ht.1, ob_s, p3.2.1]
        by_cases h2 : clk yf < mnt yf j
        · have hd : isDue yf j = false := by simp [isDue, h2]
          rw [duS_f hd]
          exact ⟨z, by rw [if_pos h2, bb_X8_endDue_56], p1, p2, p3⟩
        · have hd : isDue yf j = true := by simp [isDue, hrn, h1, h2]
          have hty : ty yf j < 6 := by have := ty_lt (f := yf) hw' hj hrn; omega
          have hho : ho yf j < 8 := by have := ho_lt (f := yf) hw' hj hrn; omega
          rw [duS_t hd, if_neg h2, rc_X8 ht.1, ob_s, si_end ht h31 p3.1 hl'.1 hj (q.2.1.trans (isn_32 w.2.1)) hty (q.2.2.2.1.trans (isn_32 w.2.2.1)) hho, ob_s]
          refine ⟨(z.1 ||| ((1 : Int32) <<< (nI j &&& 31)), _), rfl, by rw [p1], ?_, sr_end hl' hc' hw' p3 h31 hs hj hrn⟩
          unfold ldU
          exact onl_u (onl_u (onl_u p2 (by omega) (by omega)) (by omega) (by omega)) (by omega) (by omega)) (0, I) ⟨rfl, onl_refl s I, hr⟩
  refine ⟨I', ?_, ho, hsr⟩
  refine e.trans ?_
  show bb_X8_endDue_4 (n' + 1) s 18 a (nI 12) (S0, I', J, x) = _
  rw [bb_X8_endDue_4, if_pos li_12e]
  exact congrArg (fun v => some (v, (S0, I', J, x))) ha
end DU
