/-! ===== a request is granted ===== -/
section GR
variable {I : Nat → Nat → Int32} {J : Nat → Nat → Int64} {x : Nat} {NH NY NE NR s : Nat} {f f' : Nat → Int64}
theorem isn_n {n m : Nat} (h : n < m) (hm : m < 2 ^ 31) : isn (nI n).toInt64 m := by
  refine ⟨?_, ?_⟩ <;> rw [nv_n (by omega)]
  exact h
theorem isI_j (a : Int32) : isI a.toInt64 := by unfold isI; rw [Int32.toInt32_toInt64]
theorem isI_m1 : isI (-1) := by unfold isI; decide
theorem mfit_at {y h w : Nat} (hfit : mfit I f y h = true) (hw : w < 2) : ¬ fre I f h w < mt I y w := by
  unfold mfit at hfit
  have hm := (Bool.and_eq_true _ _).mp hfit
  match w, hw with
  | 0, _ => simpa using hm.1
  | 1, _ => simpa using hm.2
theorem wff_start (hg : mrg I NH NY NE NR) (hc : mc I NH NY NE NR) (hw : wff I NH NY NE f) {i e y h : Nat} {b : Int32} (hl : lof f = some i) (he : e < NE) (hy : y < NY) (hh : h < NH) (hb : b = -1 ∨ isr b 1 9999) (hfit : mfit I f y h = true) : wff I NH NY NE (fst f i (nI e).toInt64 (nI y).toInt64 (nI h).toInt64 b.toInt64) := by
  obtain ⟨w1, w2, w3, w4, w5, w6, w7⟩ := hw
  have h8 := hc.2.1
  have h6 := hc.2.2.1
  have h6e := hc.2.2.2.1
  have ⟨_, i2, i3, _⟩ := fd_some hl
  have hi : i < 12 := by omega
  have hrn : rn f i = false := by simpa using i3
  have ⟨v0, v1, v2, v3, v4, v5⟩ := @fst_vi f i (nI e).toInt64 (nI y).toInt64 (nI h).toInt64 b.toInt64
  have hoi := @fst_oi f i (nI e).toInt64 (nI y).toInt64 (nI h).toInt64 b.toInt64
  generalize fst f i (nI e).toInt64 (nI y).toInt64 (nI h).toInt64 b.toInt64 = g at v0 v1 v2 v3 v4 v5 hoi ⊢
  have rn' : rn g i = true := by
    unfold rn
    rw [v0]
    have := n_ne (show e < 2 ^ 31 by omega)
    simp [this]
  have eh : ho g i = h := by unfold ho; rw [v2, nv_n (by omega)]
  have ey : ty g i = y := by unfold ty; rw [v1, nv_n (by omega)]
  have ⟨e1, e2, e3⟩ := oi_rq hoi hi
  have w3' : wfs NH NY NE g := fun j hj hr => by
    by_cases q : j = i
    · unfold wfi
      rw [q, v0, v1, v2, v3, v4, v5]
      exact ⟨isn_n he (by omega), isn_n hy (by omega), isn_n hh (by omega), isI_j _, isI_m1, isn_I w1⟩
    · rw [oi_rn hoi q] at hr
      have w := w3 j hj hr
      unfold wfi at w ⊢
      rw [oi_vi hoi q (by omega), oi_vi hoi q (by omega), oi_vi hoi q (by omega), oi_vi hoi q (by omega), oi_vi hoi q (by omega), oi_vi hoi q (by omega)]
      exact w
  refine ⟨by rw [hoi 0 (by omega)]; exact w1, by rw [hoi 1 (by omega)]; exact w2, w3', fun j hj hr => ?_, fun z hz => ?_, fun r hr => ?_, fun k hk w hw2 => ?_⟩
  · by_cases q : j = i
    · unfold mbd
      rw [q, v3, Int32.toInt32_toInt64]; exact hb
    · rw [oi_rn hoi q] at hr
      have w := w4 j hj hr
      unfold mbd at w ⊢
      rw [oi_vi hoi q (by omega)]; exact w
  · rw [hoi (2 + z) (by omega)]; exact w5 z hz
  · rw [e1] at hr
    rw [e2, e3]; exact w6 r hr
  · have q := w7 k hk w hw2
    rw [fit_iff hg w3 hk hw2] at q
    rw [fit_iff hg w3' hk hw2]
    have hup : loN I g k w = loN I f k w + (if rn g i = true ∧ ho g i = k then tN I (ty g i) w else 0) := by
      unfold loN
      refine sn_upd (j := i) hi (by rw [hrn, if_neg (by simp)]) (fun j hj hne => ?_)
      rw [oi_rn hoi hne]
      unfold ho ty
      rw [oi_vi hoi hne (by omega), oi_vi hoi hne (by omega)]
    rw [hup, rn', eh, ey]
    by_cases q2 : h = k
    · rw [if_pos ⟨rfl, q2⟩]
      subst q2
      have ef := fre_int hg w3 hh hw2
      have et := tN_is hg hy hw2
      have h0 := mfit_at hfit hw2
      rw [Int32.lt_iff_toInt_lt, ef, et.1, nI_toInt (by omega)] at h0
      omega
    · rw [if_neg (fun w => q2 w.2)]; omega
/-- the host that takes a type -/
theorem mbest_is (I : Nat → Nat → Int32) (f : Nat → Int64) (y : Nat) : ∀ n, n < 1000 → (mbest I f y n).1 = -1 ∨ ∃ h, h < n ∧ (mbest I f y n).1 = nI h ∧ mfit I f y h = true := by
  intro n
  induction n with
  | zero => exact fun _ => Or.inl rfl
  | succ n ih =>
    intro hn
    have q := ih (by omega)
    have q' : (mbest I f y n).1 = -1 ∨ ∃ h, h < n + 1 ∧ (mbest I f y n).1 = nI h ∧ mfit I f y h = true := q.elim Or.inl (fun ⟨h, a, b⟩ => Or.inr ⟨h, by omega, b⟩)
    rw [mbest_s]
    by_cases hf : mfit I f y n = true
    · rw [if_pos hf]
      by_cases h2 : (mbest I f y n).2 ≤ fre I f n 0 + fre I f n 1
      · rw [if_pos h2]; exact q'
      · rw [if_neg h2]; exact Or.inr ⟨n, by omega, rfl, hf⟩
    · rw [if_neg hf]; exact q'
end GR
