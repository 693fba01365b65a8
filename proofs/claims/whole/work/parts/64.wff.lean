/-! ===== what the row's numbers may be: kept by the steps ===== -/
theorem sn_mono {g g' : Nat → Nat} : ∀ {n : Nat}, (∀ k, k < n → g k ≤ g' k) → sn g n ≤ sn g' n
  | 0, _ => Nat.le_refl _
  | n + 1, h => by
    have h1 := sn_mono (n := n) (fun k hk => h k (by omega))
    have h2 := h n (by omega)
    rw [sn, sn]
    omega
theorem sn_congr {g g' : Nat → Nat} {n : Nat} (h : ∀ k, k < n → g k = g' k) : sn g n = sn g' n :=
  Nat.le_antisymm (sn_mono (fun k hk => Nat.le_of_eq (h k hk))) (sn_mono (fun k hk => Nat.le_of_eq (h k hk).symm))
theorem sn_upd {g g' : Nat → Nat} {j : Nat} : ∀ {n : Nat}, j < n → g j = 0 → (∀ k, k < n → k ≠ j → g' k = g k) → sn g' n = sn g n + g' j
  | 0, h, _, _ => by omega
  | n + 1, h, h0, hz => by
    rw [sn, sn]
    by_cases e : j = n
    · subst e
      rw [sn_congr (g := g') (g' := g) (fun k hk => hz k (by omega) (by omega)), h0]
      omega
    · rw [sn_upd (by omega) h0 (fun k hk hn => hz k (by omega) hn), hz n (by omega) (fun q => e q.symm)]
      omega
section WF
variable {I : Nat → Nat → Int32} {J : Nat → Nat → Int64} {x : Nat} {NH NY NE NR s : Nat} {f f' : Nat → Int64}
theorem fit_iff (hg : mrg I NH NY NE NR) (hw : wfs NH NY NE f) {h w : Nat} (hh : h < NH) (h2 : w < 2) : (¬ fre I f h w < 0) = (loN I f h w ≤ hN I h w) := by
  have e := fre_int hg hw hh h2
  have e0 : (0 : Int32).toInt = 0 := rfl
  rw [Int32.lt_iff_toInt_lt, e, e0]
  exact propext ⟨fun q => by omega, fun q => by omega⟩
theorem loN_vi (h : ∀ i, i < 12 → rn f' i = rn f i ∧ vi f' i 1 = vi f i 1 ∧ vi f' i 2 = vi f i 2) (k w : Nat) : loN I f' k w = loN I f k w := by
  unfold loN
  refine sn_congr (fun i hi => ?_)
  have q := h i hi
  rw [q.1]
  unfold ho ty
  rw [q.2.1, q.2.2]
theorem wff_op (hg : mrg I NH NY NE NR) (h : op f f') (hw : wff I NH NY NE f) (hp : ∀ y, y < NY → isI (f' (2 + y))) : wff I NH NY NE f' := by
  obtain ⟨w1, w2, w3, w4, w5, w6, w7⟩ := hw
  have ⟨e1, e2, e3⟩ := op_rq h
  have w3' : wfs NH NY NE f' := fun i hi hr => by
    rw [op_rn h] at hr
    have q := w3 i hi hr
    unfold wfi at q ⊢
    rw [op_vi h, op_vi h, op_vi h, op_vi h, op_vi h, op_vi h]
    exact q
  refine ⟨by rw [h 0 (by omega)]; exact w1, by rw [h 1 (by omega)]; exact w2, w3', fun i hi hr => ?_, hp, fun r hr => ?_, fun k hk w hw2 => ?_⟩
  · rw [op_rn h] at hr
    have q := w4 i hi hr
    unfold mbd at q ⊢
    rw [op_vi h]; exact q
  · rw [e1] at hr
    rw [e2, e3]; exact w6 r hr
  · have q := w7 k hk w hw2
    rw [fit_iff hg w3 hk hw2] at q
    rw [fit_iff hg w3' hk hw2, loN_vi (fun i hi => ⟨op_rn h i, op_vi h i 1, op_vi h i 2⟩)]
    exact q
theorem wff_ont (hg : mrg I NH NY NE NR) (h6 : NY ≤ 6) (h : ont f f') (hw : wff I NH NY NE f) (h3 : wfs NH NY NE f') : wff I NH NY NE f' := by
  obtain ⟨w1, w2, w3, w4, w5, w6, w7⟩ := hw
  have ⟨e1, e2, e3⟩ := rq_congr (h 1 (fun i hi => by omega)) (fun k hk => h k (fun i hi => by omega))
  refine ⟨by rw [h 0 (fun i hi => by omega)]; exact w1, by rw [h 1 (fun i hi => by omega)]; exact w2, h3, fun i hi hr => ?_, fun y hy => ?_, fun r hr => ?_, fun k hk w hw2 => ?_⟩
  · rw [ont_rn h hi] at hr
    have q := w4 i hi hr
    unfold mbd at q ⊢
    rw [ont_vi h hi (by omega) (by omega)]; exact q
  · rw [h (2 + y) (fun i hi => by omega)]; exact w5 y hy
  · rw [e1] at hr
    rw [e2, e3]; exact w6 r hr
  · have q := w7 k hk w hw2
    rw [fit_iff hg w3 hk hw2] at q
    rw [fit_iff hg h3 hk hw2, loN_vi (fun i hi => ⟨ont_rn h hi, ont_vi h hi (by omega) (by omega), ont_vi h hi (by omega) (by omega)⟩)]
    exact q
theorem wff_end (hg : mrg I NH NY NE NR) (h6 : NY ≤ 6) (hw : wff I NH NY NE f) {i : Nat} (hi : i < 12) : wff I NH NY NE (fu f (14 + 6 * i + 0) (-1)) := by
  obtain ⟨w1, w2, w3, w4, w5, w6, w7⟩ := hw
  have h : oi i f (fu f (14 + 6 * i + 0) (-1)) := oi_fu (oi_refl i f) (by omega)
  have ⟨e1, e2, e3⟩ := oi_rq h hi
  have w3' := wfs_end w3 (i := i)
  refine ⟨by rw [h 0 (by omega)]; exact w1, by rw [h 1 (by omega)]; exact w2, w3', fun j hj hr => ?_, fun y hy => ?_, fun r hr => ?_, fun k hk w hw2 => ?_⟩
  · by_cases e : j = i
    · rw [e, rn_fu0] at hr; cases hr
    · rw [oi_rn h e] at hr
      have q := w4 j hj hr
      unfold mbd at q ⊢
      rw [oi_vi h e (by omega)]; exact q
  · rw [h (2 + y) (by omega)]; exact w5 y hy
  · rw [e1] at hr
    rw [e2, e3]; exact w6 r hr
  · have q := w7 k hk w hw2
    rw [fit_iff hg w3 hk hw2] at q
    rw [fit_iff hg w3' hk hw2]
    refine Nat.le_trans ?_ q
    unfold loN
    refine sn_mono (fun j hj => ?_)
    by_cases e : j = i
    · rw [e, rn_fu0, if_neg (by simp)]; exact Nat.zero_le _
    · rw [oi_rn h e]
      unfold ho ty
      rw [oi_vi h e (by omega), oi_vi h e (by omega)]
      exact Nat.le_refl _
theorem wff_drop (hg : mrg I NH NY NE NR) (h6 : NY ≤ 6) (hw : wff I NH NY NE f) {r : Nat} (hr : r < nq f) : wff I NH NY NE (dropF f r) := by
  obtain ⟨w1, w2, w3, w4, w5, w6, w7⟩ := hw
  have ⟨e1, e2⟩ := dropF_nq w2 r
  have w3' : wfs NH NY NE (dropF f r) := fun i hi hr => by
    rw [dropF_rn hi] at hr
    have q := w3 i hi hr
    unfold wfi at q ⊢
    rw [dropF_vi hi (by omega), dropF_vi hi (by omega), dropF_vi hi (by omega), dropF_vi hi (by omega), dropF_vi hi (by omega), dropF_vi hi (by omega)]
    exact q
  refine ⟨by rw [dropF_off (by omega) (by omega)]; exact w1, e2, w3', fun j hj hr => ?_, fun y hy => ?_, fun o ho => ?_, fun k hk w hw2 => ?_⟩
  · rw [dropF_rn hj] at hr
    have q := w4 j hj hr
    unfold mbd at q ⊢
    rw [dropF_vi hj (by omega)]; exact q
  · rw [dropF_off (by omega) (by omega)]; exact w5 y hy
  · rw [e1] at ho
    have q := w6 (sk r o) (sk_lt hr ho)
    unfold bq at q ⊢
    rw [dropF_vq ho (by omega), dropF_vq ho (by omega), dropF_vq ho (by omega)]
    exact q
  · have q := w7 k hk w hw2
    rw [fit_iff hg w3 hk hw2] at q
    rw [fit_iff hg w3' hk hw2, loN_vi (fun i hi => ⟨dropF_rn hi, dropF_vi hi (by omega), dropF_vi hi (by omega)⟩)]
    exact q
end WF
