/-! ===== the methods keep to these functions (by program) ===== -/
theorem te_L_law {l : Launch} {g : ab_G} {hh : List (Nat × Nat × Nat × Nat)} (hl0 : l.stackTraces = false) {d2 : Nat} (hd : 42 ≤ d2 + 1)    (m0 : ab_Mm) (z : (Int32 × ab_Mm)) (h : dd_L_law  g.2.2.2.2.1 g.2.2.2.2.2  m0 = some z) : ab_W l g cL_law RL 9 (some .boolean) hh false (d2 + 1) (.inl (some (.int z.1))) z.2 0 [(0, .ref 2000)] [] m0 := by
  unfold dd_L_law at h
  refine ru_new h dL_law_0 nw_L_8 ?_
  intro q1 h
  refine ru_dup dL_law_3 rfl <| ?_
  obtain ⟨q2, hq2, h⟩ := Option.bind_eq_some_iff.mp h
  refine ru_callI rfl (tm_X11_init hl0 (by omega) hq2) dL_law_4 rfl (Or.inl pm_L_114) mf_X11_init rfl rfl (Nat.le_of_ble_eq_true rfl) ?_
  refine ru_astore_n (i := 1) dL_law_7 rfl (by decide) <| ?_
  refine ru_new h dL_law_8 nw_L_115 ?_
  intro q3 h
  refine ru_dup dL_law_11 rfl <| ?_
  obtain ⟨q4, hq4, h⟩ := Option.bind_eq_some_iff.mp h
  refine ru_callI rfl (tm_X12_init hl0 (by omega) hq4) dL_law_12 rfl (Or.inl pm_L_117) mf_X12_init rfl rfl (Nat.le_of_ble_eq_true rfl) ?_
  refine ru_astore_n (i := 2) dL_law_15 rfl (by decide) <| ru_iconst dL_law_16 kc_i_1 <| ?_
  refine ru_newJ h dL_law_17 fa_long ?_
  intro q5 h
  refine ru_astore_n (i := 3) dL_law_19 rfl (by decide) <| ru_iconst dL_law_20 kc_i_0 <| ru_istore dL_law_21 (by decide) <| ?_
  exact ru_pick [0, 1, 2, 3, 4] rfl (tbb_L_law_23 hl0 hd   _ _ _ _ _ _ _ h)
