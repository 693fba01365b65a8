/-! ===== the methods keep to these functions (by program) ===== -/
theorem tm_X11_covered {l : Launch} {g : ab_G} (hl0 : l.stackTraces = false) {d : Nat} (hd : 4 ≤ d) {l0 : Nat} {l1 : Int32} {l2 : Int32} {m : ab_Mm} {z : ((Int32 ⊕ Nat) × ab_Mm)} (h : dd_X11_covered l0 l1 l2 m = some z) : ab_Met l g yX11_covered cX11_covered 3 (some .int) [] d [.ref l0, .int l1, .int l2] m (ab_oxI z.1) z.2 := by
  obtain ⟨d2, rfl⟩ : ∃ d2, d = d2 + 1 := ⟨d - 1, by omega⟩
  exact ab_of hl0 (by decide +kernel) (Nat.le_of_ble_eq_true rfl) (fun q => by cases q) rfl (te_X11_covered hl0 hd _ _ _ _ _ h)
theorem te_X11_isOverBudget {l : Launch} {g : ab_G} (hl0 : l.stackTraces = false) {d2 : Nat} (hd : 3 ≤ d2 + 1)   (l0 : Nat) (l1 : Int32) (m0 : ab_Mm) (z : ((Int32 ⊕ Nat) × ab_Mm)) (h : dd_X11_isOverBudget  l0 l1 m0 = some z) : ab_W l g cX11_isOverBudget RX11 2 (some .boolean) [] false (d2 + 1) (ab_oxI z.1) z.2 0 [(0, .ref l0), (1, .int l1)] [] m0 := by
  unfold dd_X11_isOverBudget at h
  refine ru_aload_n (i := 0) dX11_isOverBudget_0 rfl rfl <| ru_aload_n (i := 0) dX11_isOverBudget_1 rfl rfl <| ?_
  refine ru_getR h dX11_isOverBudget_2 lk_X11_19 ?_
  intro v1 h
  refine ru_getR h dX11_isOverBudget_5 lk_X11_165 ?_
  intro v2 h
  refine ru_iload_n (i := 1) dX11_isOverBudget_8 rfl rfl <| ?_
  obtain ⟨_, hrc, h⟩ := Option.bind_eq_some_iff.mp h
  obtain ⟨q3, hq3, h⟩ := Option.bind_eq_some_iff.mp h
  obtain ⟨v3, m3⟩ := q3
  cases v3 with
  | inl v3 =>
    dsimp only at h
    refine ru_callV (tm_X11_needRow hl0 (by omega) hq3) dX11_isOverBudget_9 rfl pm_X11_115 mf_X11_needRow (ab_rcv_of hrc rfl) rfl rfl (Nat.le_of_ble_eq_true rfl) ?_
    refine ru_aload_n (i := 0) dX11_isOverBudget_12 rfl rfl <| ?_
    refine ru_getR h dX11_isOverBudget_13 lk_X11_26 ?_
    intro v4 h
    refine ru_aload_n (i := 0) dX11_isOverBudget_16 rfl rfl <| ?_
    refine ru_getR h dX11_isOverBudget_17 lk_X11_19 ?_
    intro v5 h
    refine ru_iload_n (i := 1) dX11_isOverBudget_20 rfl rfl <| ?_
    obtain ⟨_, hrc, h⟩ := Option.bind_eq_some_iff.mp h
    obtain ⟨q6, hq6, h⟩ := Option.bind_eq_some_iff.mp h
    refine ru_callV (tm_X8_isOver hl0 (by omega) hq6) dX11_isOverBudget_21 rfl pm_X11_191 mf_X8_isOver (ab_rcv_of hrc rfl) rfl rfl (Nat.le_of_ble_eq_true rfl) ?_
    rcases ab_iff h with ⟨hc, h⟩ | ⟨hc, h⟩
    · cases h
    cases h
    exact ru_ret (v := some (.int _)) ⟨_, rfl, congrArg Value.int (Classical.not_not.mp hc), dX11_isOverBudget_24⟩
  | inr v3 =>
    dsimp only at h
    cases h
    exact ru_callVX (tm_X11_needRow hl0 (by omega) hq3) dX11_isOverBudget_9 rfl pm_X11_115 mf_X11_needRow (ab_rcv_of hrc rfl) rfl rfl (Nat.le_of_ble_eq_true rfl) rfl
theorem tm_X11_isOverBudget {l : Launch} {g : ab_G} (hl0 : l.stackTraces = false) {d : Nat} (hd : 3 ≤ d) {l0 : Nat} {l1 : Int32} {m : ab_Mm} {z : ((Int32 ⊕ Nat) × ab_Mm)} (h : dd_X11_isOverBudget l0 l1 m = some z) : ab_Met l g yX11_isOverBudget cX11_isOverBudget 2 (some .boolean) [] d [.ref l0, .int l1] m (ab_oxI z.1) z.2 := by
  obtain ⟨d2, rfl⟩ : ∃ d2, d = d2 + 1 := ⟨d - 1, by omega⟩
  exact ab_of hl0 (by decide +kernel) (Nat.le_of_ble_eq_true rfl) (fun q => by cases q) rfl (te_X11_isOverBudget hl0 hd _ _ _ _ h)
theorem tbb_X11_pays_113 {l : Launch} {g : ab_G} (hl0 : l.stackTraces = false) {d2 : Nat} (hd : 3 ≤ d2 + 1)   (s0 : Int32) (m0 : ab_Mm) (z : ((Int32 ⊕ Nat) × ab_Mm)) (h : bb_X11_pays_113  s0 m0 = some z) : ab_W l g cX11_pays RX11 5 (some .boolean) [] false (d2 + 1) (ab_oxI z.1) z.2 113 [] [.int s0] m0 := by
  unfold bb_X11_pays_113 at h
  rcases ab_iff h with ⟨hc, h⟩ | ⟨hc, h⟩
  · cases h
  cases h
  exact ru_ret (v := some (.int _)) ⟨_, rfl, congrArg Value.int (Classical.not_not.mp hc), dX11_pays_113⟩
theorem tbb_X11_pays_112 {l : Launch} {g : ab_G} (hl0 : l.stackTraces = false) {d2 : Nat} (hd : 3 ≤ d2 + 1)    (m0 : ab_Mm) (z : ((Int32 ⊕ Nat) × ab_Mm)) (h : bb_X11_pays_112   m0 = some z) : ab_W l g cX11_pays RX11 5 (some .boolean) [] false (d2 + 1) (ab_oxI z.1) z.2 112 [] [] m0 := by
  unfold bb_X11_pays_112 at h
  refine ru_iconst dX11_pays_112 kc_i_0 <| ?_
  exact ru_pick [] rfl (tbb_X11_pays_113 hl0 hd   _ _ _ h)
theorem te_X11_pays {l : Launch} {g : ab_G} (hl0 : l.stackTraces = false) {d2 : Nat} (hd : 3 ≤ d2 + 1)   (l0 : Nat) (l1 : Int32) (m0 : ab_Mm) (z : ((Int32 ⊕ Nat) × ab_Mm)) (h : dd_X11_pays  l0 l1 m0 = some z) : ab_W l g cX11_pays RX11 5 (some .boolean) [] false (d2 + 1) (ab_oxI z.1) z.2 0 [(0, .ref l0), (1, .int l1)] [] m0 := by
  unfold dd_X11_pays at h
  refine ru_aload_n (i := 0) dX11_pays_0 rfl rfl <| ru_aload_n (i := 0) dX11_pays_1 rfl rfl <| ?_
  refine ru_getR h dX11_pays_2 lk_X11_19 ?_
  intro v1 h
  refine ru_getR h dX11_pays_5 lk_X11_195 ?_
  intro v2 h
  refine ru_iload_n (i := 1) dX11_pays_8 rfl rfl <| ?_
  obtain ⟨_, hrc, h⟩ := Option.bind_eq_some_iff.mp h
  obtain ⟨q3, hq3, h⟩ := Option.bind_eq_some_iff.mp h
  obtain ⟨v3, m3⟩ := q3
  cases v3 with
  | inl v3 =>
    dsimp only at h
    refine ru_callV (tm_X11_needRow hl0 (by omega) hq3) dX11_pays_9 rfl pm_X11_115 mf_X11_needRow (ab_rcv_of hrc rfl) rfl rfl (Nat.le_of_ble_eq_true rfl) ?_
    refine ru_aload_n (i := 0) dX11_pays_12 rfl rfl <| ?_
    refine ru_getR h dX11_pays_13 lk_X11_19 ?_
    intro v4 h
    refine ru_getR h dX11_pays_16 lk_X11_195 ?_
    intro v5 h
    refine ru_iload_n (i := 1) dX11_pays_19 rfl rfl <| ru_iconst dX11_pays_20 kc_i_0 <| ?_
    obtain ⟨_, hrc, h⟩ := Option.bind_eq_some_iff.mp h
    obtain ⟨q6, hq6, h⟩ := Option.bind_eq_some_iff.mp h
    refine ru_callV (tm_X10_get hl0 (by omega) hq6) dX11_pays_21 rfl pm_X11_138 mf_X10_get (ab_rcv_of hrc rfl) rfl rfl (Nat.le_of_ble_eq_true rfl) ?_
    refine ru_istore_n (i := 2) dX11_pays_24 rfl (by decide) <| ru_aload_n (i := 0) dX11_pays_25 rfl rfl <| ?_
    refine ru_getR h dX11_pays_26 lk_X11_19 ?_
    intro v7 h
    refine ru_getR h dX11_pays_29 lk_X11_195 ?_
    intro v8 h
    refine ru_iload_n (i := 1) dX11_pays_32 rfl rfl <| ru_iconst dX11_pays_33 kc_i_1 <| ?_
    obtain ⟨_, hrc, h⟩ := Option.bind_eq_some_iff.mp h
    obtain ⟨q9, hq9, h⟩ := Option.bind_eq_some_iff.mp h
    refine ru_callV (tm_X10_get hl0 (by omega) hq9) dX11_pays_34 rfl pm_X11_138 mf_X10_get (ab_rcv_of hrc rfl) rfl rfl (Nat.le_of_ble_eq_true rfl) ?_
    refine ru_istore_n (i := 3) dX11_pays_37 rfl (by decide) <| ru_aload_n (i := 0) dX11_pays_38 rfl rfl <| ?_
    refine ru_getR h dX11_pays_39 lk_X11_19 ?_
    intro v10 h
    refine ru_getR h dX11_pays_42 lk_X11_195 ?_
    intro v11 h
    refine ru_iload_n (i := 1) dX11_pays_45 rfl rfl <| ru_iconst dX11_pays_46 kc_i_2 <| ?_
    obtain ⟨_, hrc, h⟩ := Option.bind_eq_some_iff.mp h
    obtain ⟨q12, hq12, h⟩ := Option.bind_eq_some_iff.mp h
    refine ru_callV (tm_X10_get hl0 (by omega) hq12) dX11_pays_47 rfl pm_X11_138 mf_X10_get (ab_rcv_of hrc rfl) rfl rfl (Nat.le_of_ble_eq_true rfl) ?_
    refine ru_aload_n (i := 0) dX11_pays_50 rfl rfl <| ?_
    refine ru_getR h dX11_pays_51 lk_X11_26 ?_
    intro v13 h
    refine ru_iload_n (i := 2) dX11_pays_54 rfl rfl <| ru_iload_n (i := 3) dX11_pays_55 rfl rfl <| ?_
    obtain ⟨_, hrc, h⟩ := Option.bind_eq_some_iff.mp h
    obtain ⟨q14, hq14, h⟩ := Option.bind_eq_some_iff.mp h
    refine ru_callV (tm_X8_regulars hl0 (by omega) hq14) dX11_pays_56 rfl pm_X11_179 mf_X8_regulars (ab_rcv_of hrc rfl) rfl rfl (Nat.le_of_ble_eq_true rfl) ?_
    refine ru_mmin dX11_pays_59 ⟨pm_X11_186, pq_min_s, pq_ini, pq_min_c⟩ (Nat.le_of_ble_eq_true rfl) <| ru_istore dX11_pays_62 (by decide) <| ru_aload_n (i := 0) dX11_pays_64 rfl rfl <| ?_
    refine ru_getR h dX11_pays_65 lk_X11_19 ?_
    intro v15 h
    refine ru_iload_n (i := 1) dX11_pays_68 rfl rfl <| ru_aload_n (i := 0) dX11_pays_69 rfl rfl <| ?_
    refine ru_getR h dX11_pays_70 lk_X11_26 ?_
    intro v16 h
    refine ru_getI h dX11_pays_73 lk_X11_112 ?_
    intro v17 h
    obtain ⟨_, hrc, h⟩ := Option.bind_eq_some_iff.mp h
    obtain ⟨q18, hq18, h⟩ := Option.bind_eq_some_iff.mp h
    refine ru_callV (tm_X1_isActive hl0 (by omega) hq18) dX11_pays_76 rfl pm_X11_198 mf_X1_isActive (ab_rcv_of hrc rfl) rfl rfl (Nat.le_of_ble_eq_true rfl) ?_
    refine ru_if_eq (tgt := 112) dX11_pays_79 (by decide) (fun hc => ?_) (fun hc => ?_)
    · rw [if_pos hc] at h
      exact ru_pick [] rfl (tbb_X11_pays_112 hl0 hd    _ _ h)
    · rw [if_neg hc] at h
      refine ru_aload_n (i := 0) dX11_pays_82 rfl rfl <| ?_
      refine ru_getR h dX11_pays_83 lk_X11_19 ?_
      intro v19 h
      refine ru_iload_n (i := 1) dX11_pays_86 rfl rfl <| ?_
      obtain ⟨_, hrc, h⟩ := Option.bind_eq_some_iff.mp h
      obtain ⟨q20, hq20, h⟩ := Option.bind_eq_some_iff.mp h
      refine ru_callV (tm_X1_payment hl0 (by omega) hq20) dX11_pays_87 rfl pm_X11_202 mf_X1_payment (ab_rcv_of hrc rfl) rfl rfl (Nat.le_of_ble_eq_true rfl) ?_
      refine ru_iload dX11_pays_90 rfl <| ru_aload_n (i := 0) dX11_pays_92 rfl rfl <| ?_
      refine ru_getR h dX11_pays_93 lk_X11_19 ?_
      intro v21 h
      refine ru_getR h dX11_pays_96 lk_X11_132 ?_
      intro v22 h
      refine ru_iload_n (i := 3) dX11_pays_99 rfl rfl <| ru_iconst dX11_pays_100 kc_i_2 <| ?_
      obtain ⟨_, hrc, h⟩ := Option.bind_eq_some_iff.mp h
      obtain ⟨q23, hq23, h⟩ := Option.bind_eq_some_iff.mp h
      refine ru_callV (tm_X10_get hl0 (by omega) hq23) dX11_pays_101 rfl pm_X11_138 mf_X10_get (ab_rcv_of hrc rfl) rfl rfl (Nat.le_of_ble_eq_true rfl) ?_
      refine ru_imul dX11_pays_104 <| ?_
      refine ru_icmp_ge (tgt := 112) dX11_pays_105 (by decide) (fun hc => ?_) (fun hc => ?_)
      · rw [if_pos hc] at h
        exact ru_pick [] rfl (tbb_X11_pays_112 hl0 hd    _ _ h)
      · rw [if_neg hc] at h
        refine ru_iconst dX11_pays_108 kc_i_1 <| ru_goto (tgt := 113) dX11_pays_109 (by decide) <| ?_
        exact ru_pick [] rfl (tbb_X11_pays_113 hl0 hd   _ _ _ h)
  | inr v3 =>
    dsimp only at h
    cases h
    exact ru_callVX (tm_X11_needRow hl0 (by omega) hq3) dX11_pays_9 rfl pm_X11_115 mf_X11_needRow (ab_rcv_of hrc rfl) rfl rfl (Nat.le_of_ble_eq_true rfl) rfl
theorem tm_X11_pays {l : Launch} {g : ab_G} (hl0 : l.stackTraces = false) {d : Nat} (hd : 3 ≤ d) {l0 : Nat} {l1 : Int32} {m : ab_Mm} {z : ((Int32 ⊕ Nat) × ab_Mm)} (h : dd_X11_pays l0 l1 m = some z) : ab_Met l g yX11_pays cX11_pays 5 (some .boolean) [] d [.ref l0, .int l1] m (ab_oxI z.1) z.2 := by
  obtain ⟨d2, rfl⟩ : ∃ d2, d = d2 + 1 := ⟨d - 1, by omega⟩
  exact ab_of hl0 (by decide +kernel) (Nat.le_of_ble_eq_true rfl) (fun q => by cases q) rfl (te_X11_pays hl0 hd _ _ _ _ h)
theorem te_X11_fewestHosts {l : Launch} {g : ab_G} (hl0 : l.stackTraces = false) {d2 : Nat} (hd : 5 ≤ d2 + 1)   (l0 : Nat) (m0 : ab_Mm) (z : (Int32 × ab_Mm)) (h : dd_X11_fewestHosts  l0 m0 = some z) : ab_W l g cX11_fewestHosts RX11 1 (some .int) [] false (d2 + 1) (.inl (some (.int z.1))) z.2 0 [(0, .ref l0)] [] m0 := by
  unfold dd_X11_fewestHosts at h
  refine ru_aload_n (i := 0) dX11_fewestHosts_0 rfl rfl <| ?_
  refine ru_getR h dX11_fewestHosts_1 lk_X11_50 ?_
  intro v1 h
  refine ru_aload_n (i := 0) dX11_fewestHosts_4 rfl rfl <| ?_
  refine ru_getR h dX11_fewestHosts_5 lk_X11_19 ?_
  intro v2 h
  refine ru_aload_n (i := 0) dX11_fewestHosts_8 rfl rfl <| ?_
  refine ru_getR h dX11_fewestHosts_9 lk_X11_26 ?_
  intro v3 h
  obtain ⟨_, hrc, h⟩ := Option.bind_eq_some_iff.mp h
  obtain ⟨q4, hq4, h⟩ := Option.bind_eq_some_iff.mp h
  refine ru_callV (tm_X6_fewestFor hl0 (by omega) hq4) dX11_fewestHosts_12 rfl pm_X11_205 mf_X6_fewestFor (ab_rcv_of hrc rfl) rfl rfl (Nat.le_of_ble_eq_true rfl) ?_
  cases h
  exact ru_ret (v := some (.int _)) ⟨_, rfl, rfl, dX11_fewestHosts_15⟩
theorem tm_X11_fewestHosts {l : Launch} {g : ab_G} (hl0 : l.stackTraces = false) {d : Nat} (hd : 5 ≤ d) {l0 : Nat} {m : ab_Mm} {z : (Int32 × ab_Mm)} (h : dd_X11_fewestHosts l0 m = some z) : ab_Met l g yX11_fewestHosts cX11_fewestHosts 1 (some .int) [] d [.ref l0] m (.inl (some (.int z.1))) z.2 := by
  obtain ⟨d2, rfl⟩ : ∃ d2, d = d2 + 1 := ⟨d - 1, by omega⟩
  exact ab_of hl0 (by decide +kernel) (Nat.le_of_ble_eq_true rfl) (fun q => by cases q) rfl (te_X11_fewestHosts hl0 hd _ _ _ h)
theorem te_X11_cheapestEviction {l : Launch} {g : ab_G} (hl0 : l.stackTraces = false) {d2 : Nat} (hd : 35 ≤ d2 + 1)   (l0 : Nat) (l1 : Int32) (l2 : Int32) (m0 : ab_Mm) (z : ((Int32 ⊕ Nat) × ab_Mm)) (h : dd_X11_cheapestEviction  l0 l1 l2 m0 = some z) : ab_W l g cX11_cheapestEviction RX11 3 (some .int) [] false (d2 + 1) (ab_oxI z.1) z.2 0 [(0, .ref l0), (1, .int l1), (2, .int l2)] [] m0 := by
  unfold dd_X11_cheapestEviction at h
  refine ru_aload_n (i := 0) dX11_cheapestEviction_0 rfl rfl <| ru_aload_n (i := 0) dX11_cheapestEviction_1 rfl rfl <| ?_
  refine ru_getR h dX11_cheapestEviction_2 lk_X11_19 ?_
  intro v1 h
  refine ru_getR h dX11_cheapestEviction_5 lk_X11_103 ?_
  intro v2 h
  refine ru_iload_n (i := 1) dX11_cheapestEviction_8 rfl rfl <| ?_
  obtain ⟨_, hrc, h⟩ := Option.bind_eq_some_iff.mp h
  obtain ⟨q3, hq3, h⟩ := Option.bind_eq_some_iff.mp h
  obtain ⟨v3, m3⟩ := q3
  cases v3 with
  | inl v3 =>
    dsimp only at h
    refine ru_callV (tm_X11_needRow hl0 (by omega) hq3) dX11_cheapestEviction_9 rfl pm_X11_115 mf_X11_needRow (ab_rcv_of hrc rfl) rfl rfl (Nat.le_of_ble_eq_true rfl) ?_
    refine ru_aload_n (i := 0) dX11_cheapestEviction_12 rfl rfl <| ru_aload_n (i := 0) dX11_cheapestEviction_13 rfl rfl <| ?_
    refine ru_getR h dX11_cheapestEviction_14 lk_X11_19 ?_
    intro v4 h
    refine ru_getR h dX11_cheapestEviction_17 lk_X11_132 ?_
    intro v5 h
    refine ru_iload_n (i := 2) dX11_cheapestEviction_20 rfl rfl <| ?_
    obtain ⟨_, hrc, h⟩ := Option.bind_eq_some_iff.mp h
    obtain ⟨q6, hq6, h⟩ := Option.bind_eq_some_iff.mp h
    obtain ⟨v6, m6⟩ := q6
    cases v6 with
    | inl v6 =>
      dsimp only at h
      refine ru_callV (tm_X11_needRow hl0 (by omega) hq6) dX11_cheapestEviction_21 rfl pm_X11_115 mf_X11_needRow (ab_rcv_of hrc rfl) rfl rfl (Nat.le_of_ble_eq_true rfl) ?_
      refine ru_aload_n (i := 0) dX11_cheapestEviction_24 rfl rfl <| ?_
      refine ru_getR h dX11_cheapestEviction_25 lk_X11_57 ?_
      intro v7 h
      refine ru_aload_n (i := 0) dX11_cheapestEviction_28 rfl rfl <| ?_
      refine ru_getR h dX11_cheapestEviction_29 lk_X11_19 ?_
      intro v8 h
      refine ru_aload_n (i := 0) dX11_cheapestEviction_32 rfl rfl <| ?_
      refine ru_getR h dX11_cheapestEviction_33 lk_X11_26 ?_
      intro v9 h
      refine ru_iload_n (i := 1) dX11_cheapestEviction_36 rfl rfl <| ru_iload_n (i := 2) dX11_cheapestEviction_37 rfl rfl <| ?_
      obtain ⟨_, hrc, h⟩ := Option.bind_eq_some_iff.mp h
      obtain ⟨q10, hq10, h⟩ := Option.bind_eq_some_iff.mp h
      refine ru_callV (tm_X3_cheapest hl0 (by omega) hq10) dX11_cheapestEviction_38 rfl pm_X11_209 mf_X3_cheapest (ab_rcv_of hrc rfl) rfl rfl (Nat.le_of_ble_eq_true rfl) ?_
      cases h
      exact ru_ret (v := some (.int _)) ⟨_, rfl, rfl, dX11_cheapestEviction_41⟩
    | inr v6 =>
      dsimp only at h
      cases h
      exact ru_callVX (tm_X11_needRow hl0 (by omega) hq6) dX11_cheapestEviction_21 rfl pm_X11_115 mf_X11_needRow (ab_rcv_of hrc rfl) rfl rfl (Nat.le_of_ble_eq_true rfl) rfl
  | inr v3 =>
    dsimp only at h
    cases h
    exact ru_callVX (tm_X11_needRow hl0 (by omega) hq3) dX11_cheapestEviction_9 rfl pm_X11_115 mf_X11_needRow (ab_rcv_of hrc rfl) rfl rfl (Nat.le_of_ble_eq_true rfl) rfl
theorem tm_X11_cheapestEviction {l : Launch} {g : ab_G} (hl0 : l.stackTraces = false) {d : Nat} (hd : 35 ≤ d) {l0 : Nat} {l1 : Int32} {l2 : Int32} {m : ab_Mm} {z : ((Int32 ⊕ Nat) × ab_Mm)} (h : dd_X11_cheapestEviction l0 l1 l2 m = some z) : ab_Met l g yX11_cheapestEviction cX11_cheapestEviction 3 (some .int) [] d [.ref l0, .int l1, .int l2] m (ab_oxI z.1) z.2 := by
  obtain ⟨d2, rfl⟩ : ∃ d2, d = d2 + 1 := ⟨d - 1, by omega⟩
  exact ab_of hl0 (by decide +kernel) (Nat.le_of_ble_eq_true rfl) (fun q => by cases q) rfl (te_X11_cheapestEviction hl0 hd _ _ _ _ _ h)
theorem te_X11_migrationCost {l : Launch} {g : ab_G} (hl0 : l.stackTraces = false) {d2 : Nat} (hd : 5 ≤ d2 + 1)   (l0 : Nat) (l1 : Int32) (m0 : ab_Mm) (z : ((Int32 ⊕ Nat) × ab_Mm)) (h : dd_X11_migrationCost  l0 l1 m0 = some z) : ab_W l g cX11_migrationCost RX11 2 (some .int) [] false (d2 + 1) (ab_oxI z.1) z.2 0 [(0, .ref l0), (1, .int l1)] [] m0 := by
  unfold dd_X11_migrationCost at h
  refine ru_aload_n (i := 0) dX11_migrationCost_0 rfl rfl <| ru_iload_n (i := 1) dX11_migrationCost_1 rfl rfl <| ?_
  obtain ⟨_, hrc, h⟩ := Option.bind_eq_some_iff.mp h
  obtain ⟨q1, hq1, h⟩ := Option.bind_eq_some_iff.mp h
  obtain ⟨v1, m1⟩ := q1
  cases v1 with
  | inl v1 =>
    dsimp only at h
    refine ru_callV (tm_X11_needInstance hl0 (by omega) hq1) dX11_migrationCost_2 rfl pm_X11_152 mf_X11_needInstance (ab_rcv_of hrc rfl) rfl rfl (Nat.le_of_ble_eq_true rfl) ?_
    refine ru_aload_n (i := 0) dX11_migrationCost_5 rfl rfl <| ?_
    refine ru_getR h dX11_migrationCost_6 lk_X11_26 ?_
    intro v2 h
    refine ru_aload_n (i := 0) dX11_migrationCost_9 rfl rfl <| ?_
    refine ru_getR h dX11_migrationCost_10 lk_X11_19 ?_
    intro v3 h
    refine ru_iload_n (i := 1) dX11_migrationCost_13 rfl rfl <| ?_
    obtain ⟨_, hrc, h⟩ := Option.bind_eq_some_iff.mp h
    obtain ⟨q4, hq4, h⟩ := Option.bind_eq_some_iff.mp h
    refine ru_callV (tm_X8_moveCost hl0 (by omega) hq4) dX11_migrationCost_14 rfl pm_X11_213 mf_X8_moveCost (ab_rcv_of hrc rfl) rfl rfl (Nat.le_of_ble_eq_true rfl) ?_
    cases h
    exact ru_ret (v := some (.int _)) ⟨_, rfl, rfl, dX11_migrationCost_17⟩
  | inr v1 =>
    dsimp only at h
    cases h
    exact ru_callVX (tm_X11_needInstance hl0 (by omega) hq1) dX11_migrationCost_2 rfl pm_X11_152 mf_X11_needInstance (ab_rcv_of hrc rfl) rfl rfl (Nat.le_of_ble_eq_true rfl) rfl
theorem tm_X11_migrationCost {l : Launch} {g : ab_G} (hl0 : l.stackTraces = false) {d : Nat} (hd : 5 ≤ d) {l0 : Nat} {l1 : Int32} {m : ab_Mm} {z : ((Int32 ⊕ Nat) × ab_Mm)} (h : dd_X11_migrationCost l0 l1 m = some z) : ab_Met l g yX11_migrationCost cX11_migrationCost 2 (some .int) [] d [.ref l0, .int l1] m (ab_oxI z.1) z.2 := by
  obtain ⟨d2, rfl⟩ : ∃ d2, d = d2 + 1 := ⟨d - 1, by omega⟩
  exact ab_of hl0 (by decide +kernel) (Nat.le_of_ble_eq_true rfl) (fun q => by cases q) rfl (te_X11_migrationCost hl0 hd _ _ _ _ h)
theorem tbb_X11_drainTo_99 {l : Launch} {g : ab_G} (hl0 : l.stackTraces = false) {d2 : Nat} (hd : 35 ≤ d2 + 1)   (s0 : Int32) (m0 : ab_Mm) (z : ((Int32 ⊕ Nat) × ab_Mm)) (h : bb_X11_drainTo_99  s0 m0 = some z) : ab_W l g cX11_drainTo RX11 3 (some .int) [] false (d2 + 1) (ab_oxI z.1) z.2 99 [] [.int s0] m0 := by
  unfold bb_X11_drainTo_99 at h
  cases h
  exact ru_ret (v := some (.int _)) ⟨_, rfl, rfl, dX11_drainTo_99⟩
theorem te_X11_drainTo {l : Launch} {g : ab_G} (hl0 : l.stackTraces = false) {d2 : Nat} (hd : 35 ≤ d2 + 1)   (l0 : Nat) (l1 : Int32) (l2 : Int32) (m0 : ab_Mm) (z : ((Int32 ⊕ Nat) × ab_Mm)) (h : dd_X11_drainTo  l0 l1 l2 m0 = some z) : ab_W l g cX11_drainTo RX11 3 (some .int) [] false (d2 + 1) (ab_oxI z.1) z.2 0 [(0, .ref l0), (1, .int l1), (2, .int l2)] [] m0 := by
  unfold dd_X11_drainTo at h
  refine ru_aload_n (i := 0) dX11_drainTo_0 rfl rfl <| ru_aload_n (i := 0) dX11_drainTo_1 rfl rfl <| ?_
  refine ru_getR h dX11_drainTo_2 lk_X11_19 ?_
  intro v1 h
  refine ru_getR h dX11_drainTo_5 lk_X11_103 ?_
  intro v2 h
  refine ru_iload_n (i := 1) dX11_drainTo_8 rfl rfl <| ?_
  obtain ⟨_, hrc, h⟩ := Option.bind_eq_some_iff.mp h
  obtain ⟨q3, hq3, h⟩ := Option.bind_eq_some_iff.mp h
  obtain ⟨v3, m3⟩ := q3
  cases v3 with
  | inl v3 =>
    dsimp only at h
    refine ru_callV (tm_X11_needRow hl0 (by omega) hq3) dX11_drainTo_9 rfl pm_X11_115 mf_X11_needRow (ab_rcv_of hrc rfl) rfl rfl (Nat.le_of_ble_eq_true rfl) ?_
    refine ru_aload_n (i := 0) dX11_drainTo_12 rfl rfl <| ru_iload_n (i := 2) dX11_drainTo_13 rfl rfl <| ?_
    obtain ⟨_, hrc, h⟩ := Option.bind_eq_some_iff.mp h
    obtain ⟨q4, hq4, h⟩ := Option.bind_eq_some_iff.mp h
    obtain ⟨v4, m4⟩ := q4
    cases v4 with
    | inl v4 =>
      dsimp only at h
      refine ru_callV (tm_X11_needInstance hl0 (by omega) hq4) dX11_drainTo_14 rfl pm_X11_152 mf_X11_needInstance (ab_rcv_of hrc rfl) rfl rfl (Nat.le_of_ble_eq_true rfl) ?_
      refine ru_aload_n (i := 0) dX11_drainTo_17 rfl rfl <| ?_
      refine ru_getR h dX11_drainTo_18 lk_X11_26 ?_
      intro v5 h
      refine ru_getR h dX11_drainTo_21 lk_X11_155 ?_
      intro v6 h
      refine ru_iload_n (i := 2) dX11_drainTo_24 rfl rfl <| ru_iconst dX11_drainTo_25 kc_i_3 <| ?_
      obtain ⟨_, hrc, h⟩ := Option.bind_eq_some_iff.mp h
      obtain ⟨q7, hq7, h⟩ := Option.bind_eq_some_iff.mp h
      refine ru_callV (tm_X10_get hl0 (by omega) hq7) dX11_drainTo_26 rfl pm_X11_138 mf_X10_get (ab_rcv_of hrc rfl) rfl rfl (Nat.le_of_ble_eq_true rfl) ?_
      refine ru_iload_n (i := 1) dX11_drainTo_29 rfl rfl <| ?_
      refine ru_icmp_eq (tgt := 43) dX11_drainTo_30 (by decide) (fun hc => ?_) (fun hc => ?_)
      · rw [if_pos hc] at h
        refine ru_aload_n (i := 0) dX11_drainTo_43 rfl rfl <| ?_
        refine ru_getR h dX11_drainTo_44 lk_X11_26 ?_
        intro v8 h
        refine ru_iload_n (i := 1) dX11_drainTo_47 rfl rfl <| ?_
        obtain ⟨_, hrc, h⟩ := Option.bind_eq_some_iff.mp h
        obtain ⟨q9, hq9, h⟩ := Option.bind_eq_some_iff.mp h
        refine ru_callV (tm_X8_setOn hl0 (by omega) hq9) dX11_drainTo_48 rfl pm_X11_123 mf_X8_setOn (ab_rcv_of hrc rfl) rfl rfl (Nat.le_of_ble_eq_true rfl) ?_
        obtain ⟨q10, hq10, h⟩ := Option.bind_eq_some_iff.mp h
        refine ru_callS (tm_J6_bitCount_0f7a4 hl0 (by omega) hq10) dX11_drainTo_51 rfl pm_X11_221 mf_J6_bitCount_0f7a4 rfl rfl (Nat.le_of_ble_eq_true rfl) ?_
        refine ru_iconst dX11_drainTo_54 kc_i_5 <| ?_
        refine ru_icmp_le (tgt := 68) dX11_drainTo_55 (by decide) (fun hc => ?_) (fun hc => ?_)
        · rw [if_pos hc] at h
          refine ru_aload_n (i := 0) dX11_drainTo_68 rfl rfl <| ?_
          refine ru_getR h dX11_drainTo_69 lk_X11_64 ?_
          intro v11 h
          refine ru_aload_n (i := 0) dX11_drainTo_72 rfl rfl <| ?_
          refine ru_getR h dX11_drainTo_73 lk_X11_19 ?_
          intro v12 h
          refine ru_aload_n (i := 0) dX11_drainTo_76 rfl rfl <| ?_
          refine ru_getR h dX11_drainTo_77 lk_X11_26 ?_
          intro v13 h
          refine ru_iload_n (i := 1) dX11_drainTo_80 rfl rfl <| ?_
          obtain ⟨_, hrc, h⟩ := Option.bind_eq_some_iff.mp h
          obtain ⟨q14, hq14, h⟩ := Option.bind_eq_some_iff.mp h
          refine ru_callV (tm_X2_plan hl0 (by omega) hq14) dX11_drainTo_81 rfl pm_X11_228 mf_X2_plan (ab_rcv_of hrc rfl) rfl rfl (Nat.le_of_ble_eq_true rfl) ?_
          refine ru_if_eq (tgt := 98) dX11_drainTo_84 (by decide) (fun hc => ?_) (fun hc => ?_)
          · rw [if_pos hc] at h
            refine ru_iconst dX11_drainTo_98 kc_i_m1 <| ?_
            exact ru_pick [] rfl (tbb_X11_drainTo_99 hl0 hd   _ _ _ h)
          · rw [if_neg hc] at h
            refine ru_aload_n (i := 0) dX11_drainTo_87 rfl rfl <| ?_
            refine ru_getR h dX11_drainTo_88 lk_X11_64 ?_
            intro v15 h
            refine ru_iload_n (i := 2) dX11_drainTo_91 rfl rfl <| ?_
            obtain ⟨_, hrc, h⟩ := Option.bind_eq_some_iff.mp h
            obtain ⟨q16, hq16, h⟩ := Option.bind_eq_some_iff.mp h
            refine ru_callV (tm_X2_targetOf hl0 (by omega) hq16) dX11_drainTo_92 rfl pm_X11_232 mf_X2_targetOf (ab_rcv_of hrc rfl) rfl rfl (Nat.le_of_ble_eq_true rfl) ?_
            refine ru_goto (tgt := 99) dX11_drainTo_95 (by decide) <| ?_
            exact ru_pick [] rfl (tbb_X11_drainTo_99 hl0 hd   _ _ _ h)
        · rw [if_neg hc] at h
          cases h
          exact ru_throwS xk_X11_216_220 (text := "too many instances on the host") (by decide +kernel) (Nat.le_of_ble_eq_true rfl) dX11_drainTo_58 dX11_drainTo_61 dX11_drainTo_62 dX11_drainTo_64 dX11_drainTo_67
      · rw [if_neg hc] at h
        cases h
        exact ru_throwS xk_X11_216_220 (text := "the instance is not on the host") (by decide +kernel) (Nat.le_of_ble_eq_true rfl) dX11_drainTo_33 dX11_drainTo_36 dX11_drainTo_37 dX11_drainTo_39 dX11_drainTo_42
    | inr v4 =>
      dsimp only at h
      cases h
      exact ru_callVX (tm_X11_needInstance hl0 (by omega) hq4) dX11_drainTo_14 rfl pm_X11_152 mf_X11_needInstance (ab_rcv_of hrc rfl) rfl rfl (Nat.le_of_ble_eq_true rfl) rfl
  | inr v3 =>
    dsimp only at h
    cases h
    exact ru_callVX (tm_X11_needRow hl0 (by omega) hq3) dX11_drainTo_9 rfl pm_X11_115 mf_X11_needRow (ab_rcv_of hrc rfl) rfl rfl (Nat.le_of_ble_eq_true rfl) rfl
theorem tm_X11_drainTo {l : Launch} {g : ab_G} (hl0 : l.stackTraces = false) {d : Nat} (hd : 35 ≤ d) {l0 : Nat} {l1 : Int32} {l2 : Int32} {m : ab_Mm} {z : ((Int32 ⊕ Nat) × ab_Mm)} (h : dd_X11_drainTo l0 l1 l2 m = some z) : ab_Met l g yX11_drainTo cX11_drainTo 3 (some .int) [] d [.ref l0, .int l1, .int l2] m (ab_oxI z.1) z.2 := by
  obtain ⟨d2, rfl⟩ : ∃ d2, d = d2 + 1 := ⟨d - 1, by omega⟩
  exact ab_of hl0 (by decide +kernel) (Nat.le_of_ble_eq_true rfl) (fun q => by cases q) rfl (te_X11_drainTo hl0 hd _ _ _ _ _ h)
theorem tbb_X11_priceAfter_46 {l : Launch} {g : ab_G} (hl0 : l.stackTraces = false) {d2 : Nat} (hd : 7 ≤ d2 + 1)   : ∀ (n : Nat) (l0 : Nat) (l1 : Int32) (l2 : Int32) (l3 : Int32) (m0 : ab_Mm) (z : ((Int32 ⊕ Nat) × ab_Mm)), bb_X11_priceAfter_46  n l0 l1 l2 l3 m0 = some z → ab_W l g cX11_priceAfter RX11 4 (some .int) [] false (d2 + 1) (ab_oxI z.1) z.2 46 [(0, .ref l0), (1, .int l1), (2, .int l2), (3, .int l3)] [] m0 := by
  intro n
  induction n with
  | zero => intro l0 l1 l2 l3 m0 z h; cases h
  | succ n ih =>
    intro l0 l1 l2 l3 m0 z h
    rw [bb_X11_priceAfter_46] at h
    refine ru_iload_n (i := 3) dX11_priceAfter_46 rfl rfl <| ru_iload_n (i := 2) dX11_priceAfter_47 rfl rfl <| ?_
    refine ru_icmp_ge (tgt := 69) dX11_priceAfter_48 (by decide) (fun hc => ?_) (fun hc => ?_)
    · rw [if_pos hc] at h
      refine ru_aload_n (i := 0) dX11_priceAfter_69 rfl rfl <| ?_
      refine ru_getR h dX11_priceAfter_70 lk_X11_30 ?_
      intro v1 h
      refine ru_getR h dX11_priceAfter_73 lk_X11_135 ?_
      intro v2 h
      refine ru_iload_n (i := 1) dX11_priceAfter_76 rfl rfl <| ru_iconst dX11_priceAfter_77 kc_i_0 <| ?_
      obtain ⟨_, hrc, h⟩ := Option.bind_eq_some_iff.mp h
      obtain ⟨q3, hq3, h⟩ := Option.bind_eq_some_iff.mp h
      refine ru_callV (tm_X10_get hl0 (by omega) hq3) dX11_priceAfter_78 rfl pm_X11_138 mf_X10_get (ab_rcv_of hrc rfl) rfl rfl (Nat.le_of_ble_eq_true rfl) ?_
      cases h
      exact ru_ret (v := some (.int _)) ⟨_, rfl, rfl, dX11_priceAfter_81⟩
    · rw [if_neg hc] at h
      refine ru_aload_n (i := 0) dX11_priceAfter_51 rfl rfl <| ?_
      refine ru_getR h dX11_priceAfter_52 lk_X11_30 ?_
      intro v4 h
      refine ru_aload_n (i := 0) dX11_priceAfter_55 rfl rfl <| ?_
      refine ru_getR h dX11_priceAfter_56 lk_X11_19 ?_
      intro v5 h
      obtain ⟨_, hrc, h⟩ := Option.bind_eq_some_iff.mp h
      obtain ⟨q6, hq6, h⟩ := Option.bind_eq_some_iff.mp h
      refine ru_callV (tm_X8_nextHour hl0 (by omega) hq6) dX11_priceAfter_59 rfl pm_X11_240 mf_X8_nextHour (ab_rcv_of hrc rfl) rfl rfl (Nat.le_of_ble_eq_true rfl) ?_
      refine ru_pop dX11_priceAfter_62 rfl <| ru_iinc dX11_priceAfter_63 (by decide) rfl (ab_inc kc_i_1) <| ru_goto (tgt := 46) dX11_priceAfter_66 (by decide) <| ?_
      exact ru_pick [0, 1, 2, 3] rfl (ih _ _ _ _ _ _ h)
theorem tbb_X11_priceAfter_23 {l : Launch} {g : ab_G} (hl0 : l.stackTraces = false) {d2 : Nat} (hd : 7 ≤ d2 + 1)    (m0 : ab_Mm) (z : ((Int32 ⊕ Nat) × ab_Mm)) (h : bb_X11_priceAfter_23   m0 = some z) : ab_W l g cX11_priceAfter RX11 4 (some .int) [] false (d2 + 1) (ab_oxI z.1) z.2 23 [] [] m0 := by
  unfold bb_X11_priceAfter_23 at h
  cases h
  exact ru_throwS xk_X11_76_80 (text := "hours out of range") (by decide +kernel) (Nat.le_of_ble_eq_true rfl) dX11_priceAfter_23 dX11_priceAfter_26 dX11_priceAfter_27 dX11_priceAfter_29 dX11_priceAfter_32
theorem te_X11_priceAfter {l : Launch} {g : ab_G} (hl0 : l.stackTraces = false) {d2 : Nat} (hd : 7 ≤ d2 + 1)   (l0 : Nat) (l1 : Int32) (l2 : Int32) (m0 : ab_Mm) (z : ((Int32 ⊕ Nat) × ab_Mm)) (h : dd_X11_priceAfter  l0 l1 l2 m0 = some z) : ab_W l g cX11_priceAfter RX11 4 (some .int) [] false (d2 + 1) (ab_oxI z.1) z.2 0 [(0, .ref l0), (1, .int l1), (2, .int l2)] [] m0 := by
  unfold dd_X11_priceAfter at h
  refine ru_aload_n (i := 0) dX11_priceAfter_0 rfl rfl <| ru_aload_n (i := 0) dX11_priceAfter_1 rfl rfl <| ?_
  refine ru_getR h dX11_priceAfter_2 lk_X11_19 ?_
  intro v1 h
  refine ru_getR h dX11_priceAfter_5 lk_X11_132 ?_
  intro v2 h
  refine ru_iload_n (i := 1) dX11_priceAfter_8 rfl rfl <| ?_
  obtain ⟨_, hrc, h⟩ := Option.bind_eq_some_iff.mp h
  obtain ⟨q3, hq3, h⟩ := Option.bind_eq_some_iff.mp h
  obtain ⟨v3, m3⟩ := q3
  cases v3 with
  | inl v3 =>
    dsimp only at h
    refine ru_callV (tm_X11_needRow hl0 (by omega) hq3) dX11_priceAfter_9 rfl pm_X11_115 mf_X11_needRow (ab_rcv_of hrc rfl) rfl rfl (Nat.le_of_ble_eq_true rfl) ?_
    refine ru_iload_n (i := 2) dX11_priceAfter_12 rfl rfl <| ?_
    refine ru_if_lt (tgt := 23) dX11_priceAfter_13 (by decide) (fun hc => ?_) (fun hc => ?_)
    · rw [if_pos hc] at h
      exact ru_pick [] rfl (tbb_X11_priceAfter_23 hl0 hd    _ _ h)
    · rw [if_neg hc] at h
      refine ru_iload_n (i := 2) dX11_priceAfter_16 rfl rfl <| ru_sipush dX11_priceAfter_17 kc_s_200 <| ?_
      refine ru_icmp_le (tgt := 33) dX11_priceAfter_20 (by decide) (fun hc => ?_) (fun hc => ?_)
      · rw [if_pos hc] at h
        refine ru_aload_n (i := 0) dX11_priceAfter_33 rfl rfl <| ?_
        refine ru_getR h dX11_priceAfter_34 lk_X11_30 ?_
        intro v4 h
        refine ru_aload_n (i := 0) dX11_priceAfter_37 rfl rfl <| ?_
        refine ru_getR h dX11_priceAfter_38 lk_X11_26 ?_
        intro v5 h
        obtain ⟨_, hrc, h⟩ := Option.bind_eq_some_iff.mp h
        obtain ⟨q6, hq6, h⟩ := Option.bind_eq_some_iff.mp h
        refine ru_callV (tm_X8_copyFrom hl0 (by omega) hq6) dX11_priceAfter_41 rfl pm_X11_237 mf_X8_copyFrom (ab_rcv_of hrc rfl) rfl rfl (Nat.le_of_ble_eq_true rfl) ?_
        refine ru_iconst dX11_priceAfter_44 kc_i_0 <| ru_istore_n (i := 3) dX11_priceAfter_45 rfl (by decide) <| ?_
        exact ru_pick [0, 1, 2, 3] rfl (tbb_X11_priceAfter_46 hl0 hd   _ _ _ _ _ _ _ h)
      · rw [if_neg hc] at h
        exact ru_pick [] rfl (tbb_X11_priceAfter_23 hl0 hd    _ _ h)
  | inr v3 =>
    dsimp only at h
    cases h
    exact ru_callVX (tm_X11_needRow hl0 (by omega) hq3) dX11_priceAfter_9 rfl pm_X11_115 mf_X11_needRow (ab_rcv_of hrc rfl) rfl rfl (Nat.le_of_ble_eq_true rfl) rfl
theorem tm_X11_priceAfter {l : Launch} {g : ab_G} (hl0 : l.stackTraces = false) {d : Nat} (hd : 7 ≤ d) {l0 : Nat} {l1 : Int32} {l2 : Int32} {m : ab_Mm} {z : ((Int32 ⊕ Nat) × ab_Mm)} (h : dd_X11_priceAfter l0 l1 l2 m = some z) : ab_Met l g yX11_priceAfter cX11_priceAfter 4 (some .int) [] d [.ref l0, .int l1, .int l2] m (ab_oxI z.1) z.2 := by
  obtain ⟨d2, rfl⟩ : ∃ d2, d = d2 + 1 := ⟨d - 1, by omega⟩
  exact ab_of hl0 (by decide +kernel) (Nat.le_of_ble_eq_true rfl) (fun q => by cases q) rfl (te_X11_priceAfter hl0 hd _ _ _ _ _ h)
theorem tbb_X11_evictedAfter_18 {l : Launch} {g : ab_G} (hl0 : l.stackTraces = false) {d2 : Nat} (hd : 7 ≤ d2 + 1)   : ∀ (n : Nat) (l0 : Nat) (l1 : Int32) (l2 : Int32) (m0 : ab_Mm) (z : ((Int32 ⊕ Nat) × ab_Mm)), bb_X11_evictedAfter_18  n l0 l1 l2 m0 = some z → ab_W l g cX11_evictedAfter RX11 3 (some .int) [] false (d2 + 1) (ab_oxI z.1) z.2 18 [(0, .ref l0), (1, .int l1), (2, .int l2)] [] m0 := by
  intro n
  induction n with
  | zero => intro l0 l1 l2 m0 z h; cases h
  | succ n ih =>
    intro l0 l1 l2 m0 z h
    rw [bb_X11_evictedAfter_18] at h
    refine ru_iload_n (i := 2) dX11_evictedAfter_18 rfl rfl <| ru_sipush dX11_evictedAfter_19 kc_s_200 <| ?_
    refine ru_icmp_gt (tgt := 51) dX11_evictedAfter_22 (by decide) (fun hc => ?_) (fun hc => ?_)
    · rw [if_pos hc] at h
      refine ru_iconst dX11_evictedAfter_51 kc_i_m1 <| ?_
      cases h
      exact ru_ret (v := some (.int _)) ⟨_, rfl, rfl, dX11_evictedAfter_52⟩
    · rw [if_neg hc] at h
      refine ru_aload_n (i := 0) dX11_evictedAfter_25 rfl rfl <| ?_
      refine ru_getR h dX11_evictedAfter_26 lk_X11_30 ?_
      intro v1 h
      refine ru_aload_n (i := 0) dX11_evictedAfter_29 rfl rfl <| ?_
      refine ru_getR h dX11_evictedAfter_30 lk_X11_19 ?_
      intro v2 h
      obtain ⟨_, hrc, h⟩ := Option.bind_eq_some_iff.mp h
      obtain ⟨q3, hq3, h⟩ := Option.bind_eq_some_iff.mp h
      refine ru_callV (tm_X8_nextHour hl0 (by omega) hq3) dX11_evictedAfter_33 rfl pm_X11_240 mf_X8_nextHour (ab_rcv_of hrc rfl) rfl rfl (Nat.le_of_ble_eq_true rfl) ?_
      refine ru_iload_n (i := 1) dX11_evictedAfter_36 rfl rfl <| ru_ishr dX11_evictedAfter_37 <| ru_iconst dX11_evictedAfter_38 kc_i_1 <| ru_iand dX11_evictedAfter_39 <| ?_
      refine ru_if_eq (tgt := 45) dX11_evictedAfter_40 (by decide) (fun hc => ?_) (fun hc => ?_)
      · rw [if_pos hc] at h
        refine ru_iinc dX11_evictedAfter_45 (by decide) rfl (ab_inc kc_i_1) <| ru_goto (tgt := 18) dX11_evictedAfter_48 (by decide) <| ?_
        exact ru_pick [0, 1, 2] rfl (ih _ _ _ _ _ h)
      · rw [if_neg hc] at h
        refine ru_iload_n (i := 2) dX11_evictedAfter_43 rfl rfl <| ?_
        cases h
        exact ru_ret (v := some (.int _)) ⟨_, rfl, rfl, dX11_evictedAfter_44⟩
theorem te_X11_evictedAfter {l : Launch} {g : ab_G} (hl0 : l.stackTraces = false) {d2 : Nat} (hd : 7 ≤ d2 + 1)   (l0 : Nat) (l1 : Int32) (m0 : ab_Mm) (z : ((Int32 ⊕ Nat) × ab_Mm)) (h : dd_X11_evictedAfter  l0 l1 m0 = some z) : ab_W l g cX11_evictedAfter RX11 3 (some .int) [] false (d2 + 1) (ab_oxI z.1) z.2 0 [(0, .ref l0), (1, .int l1)] [] m0 := by
  unfold dd_X11_evictedAfter at h
  refine ru_aload_n (i := 0) dX11_evictedAfter_0 rfl rfl <| ru_iload_n (i := 1) dX11_evictedAfter_1 rfl rfl <| ?_
  obtain ⟨_, hrc, h⟩ := Option.bind_eq_some_iff.mp h
  obtain ⟨q1, hq1, h⟩ := Option.bind_eq_some_iff.mp h
  obtain ⟨v1, m1⟩ := q1
  cases v1 with
  | inl v1 =>
    dsimp only at h
    refine ru_callV (tm_X11_needInstance hl0 (by omega) hq1) dX11_evictedAfter_2 rfl pm_X11_152 mf_X11_needInstance (ab_rcv_of hrc rfl) rfl rfl (Nat.le_of_ble_eq_true rfl) ?_
    refine ru_aload_n (i := 0) dX11_evictedAfter_5 rfl rfl <| ?_
    refine ru_getR h dX11_evictedAfter_6 lk_X11_30 ?_
    intro v2 h
    refine ru_aload_n (i := 0) dX11_evictedAfter_9 rfl rfl <| ?_
    refine ru_getR h dX11_evictedAfter_10 lk_X11_26 ?_
    intro v3 h
    obtain ⟨_, hrc, h⟩ := Option.bind_eq_some_iff.mp h
    obtain ⟨q4, hq4, h⟩ := Option.bind_eq_some_iff.mp h
    refine ru_callV (tm_X8_copyFrom hl0 (by omega) hq4) dX11_evictedAfter_13 rfl pm_X11_237 mf_X8_copyFrom (ab_rcv_of hrc rfl) rfl rfl (Nat.le_of_ble_eq_true rfl) ?_
    refine ru_iconst dX11_evictedAfter_16 kc_i_1 <| ru_istore_n (i := 2) dX11_evictedAfter_17 rfl (by decide) <| ?_
    exact ru_pick [0, 1, 2] rfl (tbb_X11_evictedAfter_18 hl0 hd   _ _ _ _ _ _ h)
  | inr v1 =>
    dsimp only at h
    cases h
    exact ru_callVX (tm_X11_needInstance hl0 (by omega) hq1) dX11_evictedAfter_2 rfl pm_X11_152 mf_X11_needInstance (ab_rcv_of hrc rfl) rfl rfl (Nat.le_of_ble_eq_true rfl) rfl
theorem tm_X11_evictedAfter {l : Launch} {g : ab_G} (hl0 : l.stackTraces = false) {d : Nat} (hd : 7 ≤ d) {l0 : Nat} {l1 : Int32} {m : ab_Mm} {z : ((Int32 ⊕ Nat) × ab_Mm)} (h : dd_X11_evictedAfter l0 l1 m = some z) : ab_Met l g yX11_evictedAfter cX11_evictedAfter 3 (some .int) [] d [.ref l0, .int l1] m (ab_oxI z.1) z.2 := by
  obtain ⟨d2, rfl⟩ : ∃ d2, d = d2 + 1 := ⟨d - 1, by omega⟩
  exact ab_of hl0 (by decide +kernel) (Nat.le_of_ble_eq_true rfl) (fun q => by cases q) rfl (te_X11_evictedAfter hl0 hd _ _ _ _ h)
theorem tbb_X11_pass_62 {l : Launch} {g : ab_G} (hl0 : l.stackTraces = false) {d2 : Nat} (hd : 7 ≤ d2 + 1)   : ∀ (n : Nat) (l0 : Nat) (l1 : Int32) (l2 : Int32) (l3 : Int32) (m0 : ab_Mm) (z : ((Int32 ⊕ Nat) × ab_Mm)), bb_X11_pass_62  n l0 l1 l2 l3 m0 = some z → ab_W l g cX11_pass RX11 4 (some .int) [] false (d2 + 1) (ab_oxI z.1) z.2 62 [(0, .ref l0), (1, .int l1), (2, .int l2), (3, .int l3)] [] m0 := by
  intro n
  induction n with
  | zero => intro l0 l1 l2 l3 m0 z h; cases h
  | succ n ih =>
    intro l0 l1 l2 l3 m0 z h
    rw [bb_X11_pass_62] at h
    refine ru_iload_n (i := 3) dX11_pass_62 rfl rfl <| ru_iload_n (i := 1) dX11_pass_63 rfl rfl <| ?_
    refine ru_icmp_ge (tgt := 116) dX11_pass_64 (by decide) (fun hc => ?_) (fun hc => ?_)
    · rw [if_pos hc] at h
      refine ru_iload_n (i := 2) dX11_pass_116 rfl rfl <| ?_
      cases h
      exact ru_ret (v := some (.int _)) ⟨_, rfl, rfl, dX11_pass_117⟩
    · rw [if_neg hc] at h
      refine ru_aload_n (i := 0) dX11_pass_67 rfl rfl <| ?_
      refine ru_getR h dX11_pass_68 lk_X11_43 ?_
      intro v1 h
      refine ru_aload_n (i := 0) dX11_pass_71 rfl rfl <| ?_
      refine ru_getR h dX11_pass_72 lk_X11_19 ?_
      intro v2 h
      refine ru_aload_n (i := 0) dX11_pass_75 rfl rfl <| ?_
      refine ru_getR h dX11_pass_76 lk_X11_26 ?_
      intro v3 h
      obtain ⟨_, hrc, h⟩ := Option.bind_eq_some_iff.mp h
      obtain ⟨q4, hq4, h⟩ := Option.bind_eq_some_iff.mp h
      refine ru_callV (tm_X0_reckon hl0 (by omega) hq4) dX11_pass_79 rfl pm_X11_172 mf_X0_reckon (ab_rcv_of hrc rfl) rfl rfl (Nat.le_of_ble_eq_true rfl) ?_
      refine ru_aload_n (i := 0) dX11_pass_82 rfl rfl <| ?_
      refine ru_getR h dX11_pass_83 lk_X11_43 ?_
      intro v5 h
      refine ru_aload_n (i := 0) dX11_pass_86 rfl rfl <| ?_
      refine ru_getR h dX11_pass_87 lk_X11_26 ?_
      intro v6 h
      obtain ⟨_, hrc, h⟩ := Option.bind_eq_some_iff.mp h
      obtain ⟨q7, hq7, h⟩ := Option.bind_eq_some_iff.mp h
      refine ru_callV (tm_X0_charge hl0 (by omega) hq7) dX11_pass_90 rfl pm_X11_249 mf_X0_charge (ab_rcv_of hrc rfl) rfl rfl (Nat.le_of_ble_eq_true rfl) ?_
      refine ru_iload_n (i := 2) dX11_pass_93 rfl rfl <| ru_aload_n (i := 0) dX11_pass_94 rfl rfl <| ?_
      refine ru_getR h dX11_pass_95 lk_X11_26 ?_
      intro v8 h
      refine ru_aload_n (i := 0) dX11_pass_98 rfl rfl <| ?_
      refine ru_getR h dX11_pass_99 lk_X11_19 ?_
      intro v9 h
      obtain ⟨_, hrc, h⟩ := Option.bind_eq_some_iff.mp h
      obtain ⟨q10, hq10, h⟩ := Option.bind_eq_some_iff.mp h
      refine ru_callV (tm_X8_nextHour hl0 (by omega) hq10) dX11_pass_102 rfl pm_X11_240 mf_X8_nextHour (ab_rcv_of hrc rfl) rfl rfl (Nat.le_of_ble_eq_true rfl) ?_
      obtain ⟨q11, hq11, h⟩ := Option.bind_eq_some_iff.mp h
      refine ru_callS (tm_J6_bitCount_0f7a4 hl0 (by omega) hq11) dX11_pass_105 rfl pm_X11_221 mf_J6_bitCount_0f7a4 rfl rfl (Nat.le_of_ble_eq_true rfl) ?_
      refine ru_iadd dX11_pass_108 <| ru_istore_n (i := 2) dX11_pass_109 rfl (by decide) <| ru_iinc dX11_pass_110 (by decide) rfl (ab_inc kc_i_1) <| ru_goto (tgt := 62) dX11_pass_113 (by decide) <| ?_
      exact ru_pick [0, 1, 2, 3] rfl (ih _ _ _ _ _ _ h)
theorem tbb_X11_pass_12 {l : Launch} {g : ab_G} (hl0 : l.stackTraces = false) {d2 : Nat} (hd : 7 ≤ d2 + 1)    (m0 : ab_Mm) (z : ((Int32 ⊕ Nat) × ab_Mm)) (h : bb_X11_pass_12   m0 = some z) : ab_W l g cX11_pass RX11 4 (some .int) [] false (d2 + 1) (ab_oxI z.1) z.2 12 [] [] m0 := by
  unfold bb_X11_pass_12 at h
  cases h
  exact ru_throwS xk_X11_76_80 (text := "hours out of range") (by decide +kernel) (Nat.le_of_ble_eq_true rfl) dX11_pass_12 dX11_pass_15 dX11_pass_16 dX11_pass_18 dX11_pass_21
theorem te_X11_pass {l : Launch} {g : ab_G} (hl0 : l.stackTraces = false) {d2 : Nat} (hd : 7 ≤ d2 + 1)   (l0 : Nat) (l1 : Int32) (m0 : ab_Mm) (z : ((Int32 ⊕ Nat) × ab_Mm)) (h : dd_X11_pass  l0 l1 m0 = some z) : ab_W l g cX11_pass RX11 4 (some .int) [] false (d2 + 1) (ab_oxI z.1) z.2 0 [(0, .ref l0), (1, .int l1)] [] m0 := by
  unfold dd_X11_pass at h
  refine ru_iload_n (i := 1) dX11_pass_0 rfl rfl <| ru_iconst dX11_pass_1 kc_i_1 <| ?_
  refine ru_icmp_lt (tgt := 12) dX11_pass_2 (by decide) (fun hc => ?_) (fun hc => ?_)
  · rw [if_pos hc] at h
    exact ru_pick [] rfl (tbb_X11_pass_12 hl0 hd    _ _ h)
  · rw [if_neg hc] at h
    refine ru_iload_n (i := 1) dX11_pass_5 rfl rfl <| ru_sipush dX11_pass_6 kc_s_500 <| ?_
    refine ru_icmp_le (tgt := 22) dX11_pass_9 (by decide) (fun hc => ?_) (fun hc => ?_)
    · rw [if_pos hc] at h
      refine ru_aload_n (i := 0) dX11_pass_22 rfl rfl <| ?_
      refine ru_getR h dX11_pass_23 lk_X11_26 ?_
      intro v1 h
      refine ru_getI h dX11_pass_26 lk_X11_112 ?_
      intro v2 h
      refine ru_iload_n (i := 1) dX11_pass_29 rfl rfl <| ru_iadd dX11_pass_30 <| ru_sipush dX11_pass_31 kc_s_9999 <| ?_
      refine ru_icmp_le (tgt := 47) dX11_pass_34 (by decide) (fun hc => ?_) (fun hc => ?_)
      · rw [if_pos hc] at h
        refine ru_aload_n (i := 0) dX11_pass_47 rfl rfl <| ?_
        refine ru_getR h dX11_pass_48 lk_X11_36 ?_
        intro v3 h
        refine ru_aload_n (i := 0) dX11_pass_51 rfl rfl <| ?_
        refine ru_getR h dX11_pass_52 lk_X11_26 ?_
        intro v4 h
        obtain ⟨_, hrc, h⟩ := Option.bind_eq_some_iff.mp h
        obtain ⟨q5, hq5, h⟩ := Option.bind_eq_some_iff.mp h
        refine ru_callV (tm_X4_remember hl0 (by omega) hq5) dX11_pass_55 rfl pm_X11_246 mf_X4_remember (ab_rcv_of hrc rfl) rfl rfl (Nat.le_of_ble_eq_true rfl) ?_
        refine ru_iconst dX11_pass_58 kc_i_0 <| ru_istore_n (i := 2) dX11_pass_59 rfl (by decide) <| ru_iconst dX11_pass_60 kc_i_0 <| ru_istore_n (i := 3) dX11_pass_61 rfl (by decide) <| ?_
        exact ru_pick [0, 1, 2, 3] rfl (tbb_X11_pass_62 hl0 hd   _ _ _ _ _ _ _ h)
      · rw [if_neg hc] at h
        cases h
        exact ru_throwS xk_X11_216_220 (text := "the clock would exceed its end") (by decide +kernel) (Nat.le_of_ble_eq_true rfl) dX11_pass_37 dX11_pass_40 dX11_pass_41 dX11_pass_43 dX11_pass_46
    · rw [if_neg hc] at h
      exact ru_pick [] rfl (tbb_X11_pass_12 hl0 hd    _ _ h)
theorem tm_X11_pass {l : Launch} {g : ab_G} (hl0 : l.stackTraces = false) {d : Nat} (hd : 7 ≤ d) {l0 : Nat} {l1 : Int32} {m : ab_Mm} {z : ((Int32 ⊕ Nat) × ab_Mm)} (h : dd_X11_pass l0 l1 m = some z) : ab_Met l g yX11_pass cX11_pass 4 (some .int) [] d [.ref l0, .int l1] m (ab_oxI z.1) z.2 := by
  obtain ⟨d2, rfl⟩ : ∃ d2, d = d2 + 1 := ⟨d - 1, by omega⟩
  exact ab_of hl0 (by decide +kernel) (Nat.le_of_ble_eq_true rfl) (fun q => by cases q) rfl (te_X11_pass hl0 hd _ _ _ _ h)
theorem te_X11_needBudget {l : Launch} {g : ab_G} (hl0 : l.stackTraces = false) {d2 : Nat} (hd : 3 ≤ d2 + 1)   (l0 : Nat) (l1 : Int32) (m0 : ab_Mm) (z : ((Unit ⊕ Nat) × ab_Mm)) (h : dd_X11_needBudget  l0 l1 m0 = some z) : ab_W l g cX11_needBudget RX11 2 none [] false (d2 + 1) (ab_oxV z.1) z.2 0 [(0, .ref l0), (1, .int l1)] [] m0 := by
  unfold dd_X11_needBudget at h
  refine ru_aload_n (i := 0) dX11_needBudget_0 rfl rfl <| ?_
  refine ru_getR h dX11_needBudget_1 lk_X11_26 ?_
  intro v1 h
  refine ru_aload_n (i := 0) dX11_needBudget_4 rfl rfl <| ?_
  refine ru_getR h dX11_needBudget_5 lk_X11_19 ?_
  intro v2 h
  refine ru_iload_n (i := 1) dX11_needBudget_8 rfl rfl <| ?_
  obtain ⟨_, hrc, h⟩ := Option.bind_eq_some_iff.mp h
  obtain ⟨q3, hq3, h⟩ := Option.bind_eq_some_iff.mp h
  refine ru_callV (tm_X8_isOver hl0 (by omega) hq3) dX11_needBudget_9 rfl pm_X11_191 mf_X8_isOver (ab_rcv_of hrc rfl) rfl rfl (Nat.le_of_ble_eq_true rfl) ?_
  refine ru_if_eq (tgt := 26) dX11_needBudget_12 (by decide) (fun hc => ?_) (fun hc => ?_)
  · rw [if_pos hc] at h
    cases h
    exact ru_ret (v := none) ⟨rfl, dX11_needBudget_26⟩
  · rw [if_neg hc] at h
    cases h
    exact ru_throwSW xk_X11_216_220 (text := "the tenant is over budget") (by decide +kernel) (Nat.le_of_ble_eq_true rfl) dX11_needBudget_15 dX11_needBudget_18 dX11_needBudget_19 dX11_needBudget_22 dX11_needBudget_25
theorem tm_X11_needBudget {l : Launch} {g : ab_G} (hl0 : l.stackTraces = false) {d : Nat} (hd : 3 ≤ d) {l0 : Nat} {l1 : Int32} {m : ab_Mm} {z : ((Unit ⊕ Nat) × ab_Mm)} (h : dd_X11_needBudget l0 l1 m = some z) : ab_Met l g yX11_needBudget cX11_needBudget 2 none [] d [.ref l0, .int l1] m (ab_oxV z.1) z.2 := by
  obtain ⟨d2, rfl⟩ : ∃ d2, d = d2 + 1 := ⟨d - 1, by omega⟩
  exact ab_of hl0 (by decide +kernel) (Nat.le_of_ble_eq_true rfl) (fun q => by cases q) rfl (te_X11_needBudget hl0 hd _ _ _ _ h)
theorem te_X11_launch {l : Launch} {g : ab_G} (hl0 : l.stackTraces = false) {d2 : Nat} (hd : 5 ≤ d2 + 1)   (l0 : Nat) (l1 : Int32) (l2 : Int32) (m0 : ab_Mm) (z : ((Int32 ⊕ Nat) × ab_Mm)) (h : dd_X11_launch  l0 l1 l2 m0 = some z) : ab_W l g cX11_launch RX11 4 (some .int) [] false (d2 + 1) (ab_oxI z.1) z.2 0 [(0, .ref l0), (1, .int l1), (2, .int l2)] [] m0 := by
  unfold dd_X11_launch at h
  refine ru_aload_n (i := 0) dX11_launch_0 rfl rfl <| ru_aload_n (i := 0) dX11_launch_1 rfl rfl <| ?_
  refine ru_getR h dX11_launch_2 lk_X11_19 ?_
  intro v1 h
  refine ru_getR h dX11_launch_5 lk_X11_165 ?_
  intro v2 h
  refine ru_iload_n (i := 1) dX11_launch_8 rfl rfl <| ?_
  obtain ⟨_, hrc, h⟩ := Option.bind_eq_some_iff.mp h
  obtain ⟨q3, hq3, h⟩ := Option.bind_eq_some_iff.mp h
  obtain ⟨v3, m3⟩ := q3
  cases v3 with
  | inl v3 =>
    dsimp only at h
    refine ru_callV (tm_X11_needRow hl0 (by omega) hq3) dX11_launch_9 rfl pm_X11_115 mf_X11_needRow (ab_rcv_of hrc rfl) rfl rfl (Nat.le_of_ble_eq_true rfl) ?_
    refine ru_aload_n (i := 0) dX11_launch_12 rfl rfl <| ru_aload_n (i := 0) dX11_launch_13 rfl rfl <| ?_
    refine ru_getR h dX11_launch_14 lk_X11_19 ?_
    intro v4 h
    refine ru_getR h dX11_launch_17 lk_X11_132 ?_
    intro v5 h
    refine ru_iload_n (i := 2) dX11_launch_20 rfl rfl <| ?_
    obtain ⟨_, hrc, h⟩ := Option.bind_eq_some_iff.mp h
    obtain ⟨q6, hq6, h⟩ := Option.bind_eq_some_iff.mp h
    obtain ⟨v6, m6⟩ := q6
    cases v6 with
    | inl v6 =>
      dsimp only at h
      refine ru_callV (tm_X11_needRow hl0 (by omega) hq6) dX11_launch_21 rfl pm_X11_115 mf_X11_needRow (ab_rcv_of hrc rfl) rfl rfl (Nat.le_of_ble_eq_true rfl) ?_
      refine ru_aload_n (i := 0) dX11_launch_24 rfl rfl <| ru_iload_n (i := 1) dX11_launch_25 rfl rfl <| ?_
      obtain ⟨_, hrc, h⟩ := Option.bind_eq_some_iff.mp h
      obtain ⟨q7, hq7, h⟩ := Option.bind_eq_some_iff.mp h
      obtain ⟨v7, m7⟩ := q7
      cases v7 with
      | inl v7 =>
        dsimp only at h
        refine ru_callV (tm_X11_needBudget hl0 (by omega) hq7) dX11_launch_26 rfl pm_X11_252 mf_X11_needBudget (ab_rcv_of hrc rfl) rfl rfl (Nat.le_of_ble_eq_true rfl) ?_
        refine ru_aload_n (i := 0) dX11_launch_29 rfl rfl <| ?_
        refine ru_getR h dX11_launch_30 lk_X11_26 ?_
        intro v8 h
        obtain ⟨_, hrc, h⟩ := Option.bind_eq_some_iff.mp h
        obtain ⟨q9, hq9, h⟩ := Option.bind_eq_some_iff.mp h
        refine ru_callV (tm_X8_isFull hl0 (by omega) hq9) dX11_launch_33 rfl pm_X11_255 mf_X8_isFull (ab_rcv_of hrc rfl) rfl rfl (Nat.le_of_ble_eq_true rfl) ?_
        refine ru_if_eq (tgt := 50) dX11_launch_36 (by decide) (fun hc => ?_) (fun hc => ?_)
        · rw [if_pos hc] at h
          refine ru_aload_n (i := 0) dX11_launch_50 rfl rfl <| ?_
          refine ru_getR h dX11_launch_51 lk_X11_26 ?_
          intro v10 h
          refine ru_aload_n (i := 0) dX11_launch_54 rfl rfl <| ?_
          refine ru_getR h dX11_launch_55 lk_X11_19 ?_
          intro v11 h
          refine ru_iload_n (i := 2) dX11_launch_58 rfl rfl <| ?_
          obtain ⟨_, hrc, h⟩ := Option.bind_eq_some_iff.mp h
          obtain ⟨q12, hq12, h⟩ := Option.bind_eq_some_iff.mp h
          refine ru_callV (tm_X8_tightestHost hl0 (by omega) hq12) dX11_launch_59 rfl pm_X11_142 mf_X8_tightestHost (ab_rcv_of hrc rfl) rfl rfl (Nat.le_of_ble_eq_true rfl) ?_
          refine ru_istore_n (i := 3) dX11_launch_62 rfl (by decide) <| ru_iload_n (i := 3) dX11_launch_63 rfl rfl <| ru_iconst dX11_launch_64 kc_i_m1 <| ?_
          refine ru_icmp_ne (tgt := 79) dX11_launch_65 (by decide) (fun hc => ?_) (fun hc => ?_)
          · rw [if_neg hc] at h
            refine ru_aload_n (i := 0) dX11_launch_79 rfl rfl <| ?_
            refine ru_getR h dX11_launch_80 lk_X11_36 ?_
            intro v13 h
            refine ru_aload_n (i := 0) dX11_launch_83 rfl rfl <| ?_
            refine ru_getR h dX11_launch_84 lk_X11_26 ?_
            intro v14 h
            obtain ⟨_, hrc, h⟩ := Option.bind_eq_some_iff.mp h
            obtain ⟨q15, hq15, h⟩ := Option.bind_eq_some_iff.mp h
            refine ru_callV (tm_X4_remember hl0 (by omega) hq15) dX11_launch_87 rfl pm_X11_246 mf_X4_remember (ab_rcv_of hrc rfl) rfl rfl (Nat.le_of_ble_eq_true rfl) ?_
            refine ru_aload_n (i := 0) dX11_launch_90 rfl rfl <| ?_
            refine ru_getR h dX11_launch_91 lk_X11_26 ?_
            intro v16 h
            refine ru_aload_n (i := 0) dX11_launch_94 rfl rfl <| ?_
            refine ru_getR h dX11_launch_95 lk_X11_19 ?_
            intro v17 h
            refine ru_iload_n (i := 1) dX11_launch_98 rfl rfl <| ru_iload_n (i := 2) dX11_launch_99 rfl rfl <| ru_iconst dX11_launch_100 kc_i_m1 <| ru_iload_n (i := 3) dX11_launch_101 rfl rfl <| ?_
            obtain ⟨_, hrc, h⟩ := Option.bind_eq_some_iff.mp h
            obtain ⟨q18, hq18, h⟩ := Option.bind_eq_some_iff.mp h
            refine ru_callV (tm_X8_start hl0 (by omega) hq18) dX11_launch_102 rfl pm_X11_263 mf_X8_start (ab_rcv_of hrc rfl) rfl rfl (Nat.le_of_ble_eq_true rfl) ?_
            cases h
            exact ru_ret (v := some (.int _)) ⟨_, rfl, rfl, dX11_launch_105⟩
          · rw [if_pos hc] at h
            cases h
            exact ru_throwSW xk_X11_216_220 (text := "the type fits no host") (by decide +kernel) (Nat.le_of_ble_eq_true rfl) dX11_launch_68 dX11_launch_71 dX11_launch_72 dX11_launch_75 dX11_launch_78
        · rw [if_neg hc] at h
          cases h
          exact ru_throwSW xk_X11_216_220 (text := "too many instances") (by decide +kernel) (Nat.le_of_ble_eq_true rfl) dX11_launch_39 dX11_launch_42 dX11_launch_43 dX11_launch_46 dX11_launch_49
      | inr v7 =>
        dsimp only at h
        cases h
        exact ru_callVX (tm_X11_needBudget hl0 (by omega) hq7) dX11_launch_26 rfl pm_X11_252 mf_X11_needBudget (ab_rcv_of hrc rfl) rfl rfl (Nat.le_of_ble_eq_true rfl) rfl
    | inr v6 =>
      dsimp only at h
      cases h
      exact ru_callVX (tm_X11_needRow hl0 (by omega) hq6) dX11_launch_21 rfl pm_X11_115 mf_X11_needRow (ab_rcv_of hrc rfl) rfl rfl (Nat.le_of_ble_eq_true rfl) rfl
  | inr v3 =>
    dsimp only at h
    cases h
    exact ru_callVX (tm_X11_needRow hl0 (by omega) hq3) dX11_launch_9 rfl pm_X11_115 mf_X11_needRow (ab_rcv_of hrc rfl) rfl rfl (Nat.le_of_ble_eq_true rfl) rfl
theorem tm_X11_launch {l : Launch} {g : ab_G} (hl0 : l.stackTraces = false) {d : Nat} (hd : 5 ≤ d) {l0 : Nat} {l1 : Int32} {l2 : Int32} {m : ab_Mm} {z : ((Int32 ⊕ Nat) × ab_Mm)} (h : dd_X11_launch l0 l1 l2 m = some z) : ab_Met l g yX11_launch cX11_launch 4 (some .int) [] d [.ref l0, .int l1, .int l2] m (ab_oxI z.1) z.2 := by
  obtain ⟨d2, rfl⟩ : ∃ d2, d = d2 + 1 := ⟨d - 1, by omega⟩
  exact ab_of hl0 (by decide +kernel) (Nat.le_of_ble_eq_true rfl) (fun q => by cases q) rfl (te_X11_launch hl0 hd _ _ _ _ _ h)
theorem tbb_X11_bid_36 {l : Launch} {g : ab_G} (hl0 : l.stackTraces = false) {d2 : Nat} (hd : 4 ≤ d2 + 1)    (m0 : ab_Mm) (z : ((Int32 ⊕ Nat) × ab_Mm)) (h : bb_X11_bid_36   m0 = some z) : ab_W l g cX11_bid RX11 4 (some .int) [] false (d2 + 1) (ab_oxI z.1) z.2 36 [] [] m0 := by
  unfold bb_X11_bid_36 at h
  cases h
  exact ru_throwSW xk_X11_76_80 (text := "price out of range") (by decide +kernel) (Nat.le_of_ble_eq_true rfl) dX11_bid_36 dX11_bid_39 dX11_bid_40 dX11_bid_43 dX11_bid_46
theorem te_X11_bid {l : Launch} {g : ab_G} (hl0 : l.stackTraces = false) {d2 : Nat} (hd : 4 ≤ d2 + 1)   (l0 : Nat) (l1 : Int32) (l2 : Int32) (l3 : Int32) (m0 : ab_Mm) (z : ((Int32 ⊕ Nat) × ab_Mm)) (h : dd_X11_bid  l0 l1 l2 l3 m0 = some z) : ab_W l g cX11_bid RX11 4 (some .int) [] false (d2 + 1) (ab_oxI z.1) z.2 0 [(0, .ref l0), (1, .int l1), (2, .int l2), (3, .int l3)] [] m0 := by
  unfold dd_X11_bid at h
  refine ru_aload_n (i := 0) dX11_bid_0 rfl rfl <| ru_aload_n (i := 0) dX11_bid_1 rfl rfl <| ?_
  refine ru_getR h dX11_bid_2 lk_X11_19 ?_
  intro v1 h
  refine ru_getR h dX11_bid_5 lk_X11_165 ?_
  intro v2 h
  refine ru_iload_n (i := 1) dX11_bid_8 rfl rfl <| ?_
  obtain ⟨_, hrc, h⟩ := Option.bind_eq_some_iff.mp h
  obtain ⟨q3, hq3, h⟩ := Option.bind_eq_some_iff.mp h
  obtain ⟨v3, m3⟩ := q3
  cases v3 with
  | inl v3 =>
    dsimp only at h
    refine ru_callV (tm_X11_needRow hl0 (by omega) hq3) dX11_bid_9 rfl pm_X11_115 mf_X11_needRow (ab_rcv_of hrc rfl) rfl rfl (Nat.le_of_ble_eq_true rfl) ?_
    refine ru_aload_n (i := 0) dX11_bid_12 rfl rfl <| ru_aload_n (i := 0) dX11_bid_13 rfl rfl <| ?_
    refine ru_getR h dX11_bid_14 lk_X11_19 ?_
    intro v4 h
    refine ru_getR h dX11_bid_17 lk_X11_132 ?_
    intro v5 h
    refine ru_iload_n (i := 2) dX11_bid_20 rfl rfl <| ?_
    obtain ⟨_, hrc, h⟩ := Option.bind_eq_some_iff.mp h
    obtain ⟨q6, hq6, h⟩ := Option.bind_eq_some_iff.mp h
    obtain ⟨v6, m6⟩ := q6
    cases v6 with
    | inl v6 =>
      dsimp only at h
      refine ru_callV (tm_X11_needRow hl0 (by omega) hq6) dX11_bid_21 rfl pm_X11_115 mf_X11_needRow (ab_rcv_of hrc rfl) rfl rfl (Nat.le_of_ble_eq_true rfl) ?_
      refine ru_iload_n (i := 3) dX11_bid_24 rfl rfl <| ru_iconst dX11_bid_25 kc_i_1 <| ?_
      refine ru_icmp_lt (tgt := 36) dX11_bid_26 (by decide) (fun hc => ?_) (fun hc => ?_)
      · rw [if_pos hc] at h
        exact ru_pick [] rfl (tbb_X11_bid_36 hl0 hd    _ _ h)
      · rw [if_neg hc] at h
        refine ru_iload_n (i := 3) dX11_bid_29 rfl rfl <| ru_sipush dX11_bid_30 kc_s_9999 <| ?_
        refine ru_icmp_le (tgt := 47) dX11_bid_33 (by decide) (fun hc => ?_) (fun hc => ?_)
        · rw [if_pos hc] at h
          refine ru_aload_n (i := 0) dX11_bid_47 rfl rfl <| ru_iload_n (i := 1) dX11_bid_48 rfl rfl <| ?_
          obtain ⟨_, hrc, h⟩ := Option.bind_eq_some_iff.mp h
          obtain ⟨q7, hq7, h⟩ := Option.bind_eq_some_iff.mp h
          obtain ⟨v7, m7⟩ := q7
          cases v7 with
          | inl v7 =>
            dsimp only at h
            refine ru_callV (tm_X11_needBudget hl0 (by omega) hq7) dX11_bid_49 rfl pm_X11_252 mf_X11_needBudget (ab_rcv_of hrc rfl) rfl rfl (Nat.le_of_ble_eq_true rfl) ?_
            refine ru_aload_n (i := 0) dX11_bid_52 rfl rfl <| ?_
            refine ru_getR h dX11_bid_53 lk_X11_26 ?_
            intro v8 h
            refine ru_getR h dX11_bid_56 lk_X11_158 ?_
            intro v9 h
            obtain ⟨_, hrc, h⟩ := Option.bind_eq_some_iff.mp h
            obtain ⟨q10, hq10, h⟩ := Option.bind_eq_some_iff.mp h
            refine ru_callV (tm_X10_isFull hl0 (by omega) hq10) dX11_bid_59 rfl pm_X11_269 mf_X10_isFull (ab_rcv_of hrc rfl) rfl rfl (Nat.le_of_ble_eq_true rfl) ?_
            refine ru_if_eq (tgt := 76) dX11_bid_62 (by decide) (fun hc => ?_) (fun hc => ?_)
            · rw [if_pos hc] at h
              refine ru_aload_n (i := 0) dX11_bid_76 rfl rfl <| ?_
              refine ru_getR h dX11_bid_77 lk_X11_36 ?_
              intro v11 h
              refine ru_aload_n (i := 0) dX11_bid_80 rfl rfl <| ?_
              refine ru_getR h dX11_bid_81 lk_X11_26 ?_
              intro v12 h
              obtain ⟨_, hrc, h⟩ := Option.bind_eq_some_iff.mp h
              obtain ⟨q13, hq13, h⟩ := Option.bind_eq_some_iff.mp h
              refine ru_callV (tm_X4_remember hl0 (by omega) hq13) dX11_bid_84 rfl pm_X11_246 mf_X4_remember (ab_rcv_of hrc rfl) rfl rfl (Nat.le_of_ble_eq_true rfl) ?_
              refine ru_aload_n (i := 0) dX11_bid_87 rfl rfl <| ?_
              refine ru_getR h dX11_bid_88 lk_X11_26 ?_
              intro v14 h
              refine ru_iload_n (i := 1) dX11_bid_91 rfl rfl <| ru_iload_n (i := 2) dX11_bid_92 rfl rfl <| ru_iload_n (i := 3) dX11_bid_93 rfl rfl <| ?_
              obtain ⟨_, hrc, h⟩ := Option.bind_eq_some_iff.mp h
              obtain ⟨q15, hq15, h⟩ := Option.bind_eq_some_iff.mp h
              refine ru_callV (tm_X8_queue hl0 (by omega) hq15) dX11_bid_94 rfl pm_X11_272 mf_X8_queue (ab_rcv_of hrc rfl) rfl rfl (Nat.le_of_ble_eq_true rfl) ?_
              refine ru_aload_n (i := 0) dX11_bid_97 rfl rfl <| ?_
              refine ru_getR h dX11_bid_98 lk_X11_26 ?_
              intro v16 h
              refine ru_getR h dX11_bid_101 lk_X11_158 ?_
              intro v17 h
              refine ru_getI h dX11_bid_104 lk_X11_107 ?_
              intro v18 h
              cases h
              exact ru_ret (v := some (.int _)) ⟨_, rfl, rfl, dX11_bid_107⟩
            · rw [if_neg hc] at h
              cases h
              exact ru_throwSW xk_X11_216_220 (text := "too many waiting requests") (by decide +kernel) (Nat.le_of_ble_eq_true rfl) dX11_bid_65 dX11_bid_68 dX11_bid_69 dX11_bid_72 dX11_bid_75
          | inr v7 =>
            dsimp only at h
            cases h
            exact ru_callVX (tm_X11_needBudget hl0 (by omega) hq7) dX11_bid_49 rfl pm_X11_252 mf_X11_needBudget (ab_rcv_of hrc rfl) rfl rfl (Nat.le_of_ble_eq_true rfl) rfl
        · rw [if_neg hc] at h
          exact ru_pick [] rfl (tbb_X11_bid_36 hl0 hd    _ _ h)
    | inr v6 =>
      dsimp only at h
      cases h
      exact ru_callVX (tm_X11_needRow hl0 (by omega) hq6) dX11_bid_21 rfl pm_X11_115 mf_X11_needRow (ab_rcv_of hrc rfl) rfl rfl (Nat.le_of_ble_eq_true rfl) rfl
  | inr v3 =>
    dsimp only at h
    cases h
    exact ru_callVX (tm_X11_needRow hl0 (by omega) hq3) dX11_bid_9 rfl pm_X11_115 mf_X11_needRow (ab_rcv_of hrc rfl) rfl rfl (Nat.le_of_ble_eq_true rfl) rfl
theorem tm_X11_bid {l : Launch} {g : ab_G} (hl0 : l.stackTraces = false) {d : Nat} (hd : 4 ≤ d) {l0 : Nat} {l1 : Int32} {l2 : Int32} {l3 : Int32} {m : ab_Mm} {z : ((Int32 ⊕ Nat) × ab_Mm)} (h : dd_X11_bid l0 l1 l2 l3 m = some z) : ab_Met l g yX11_bid cX11_bid 4 (some .int) [] d [.ref l0, .int l1, .int l2, .int l3] m (ab_oxI z.1) z.2 := by
  obtain ⟨d2, rfl⟩ : ∃ d2, d = d2 + 1 := ⟨d - 1, by omega⟩
  exact ab_of hl0 (by decide +kernel) (Nat.le_of_ble_eq_true rfl) (fun q => by cases q) rfl (te_X11_bid hl0 hd _ _ _ _ _ _ h)
theorem te_X11_withdraw {l : Launch} {g : ab_G} (hl0 : l.stackTraces = false) {d2 : Nat} (hd : 4 ≤ d2 + 1)   (l0 : Nat) (l1 : Int32) (m0 : ab_Mm) (z : ((Int32 ⊕ Nat) × ab_Mm)) (h : dd_X11_withdraw  l0 l1 m0 = some z) : ab_W l g cX11_withdraw RX11 2 (some .int) [] false (d2 + 1) (ab_oxI z.1) z.2 0 [(0, .ref l0), (1, .int l1)] [] m0 := by
  unfold dd_X11_withdraw at h
  refine ru_aload_n (i := 0) dX11_withdraw_0 rfl rfl <| ru_aload_n (i := 0) dX11_withdraw_1 rfl rfl <| ?_
  refine ru_getR h dX11_withdraw_2 lk_X11_19 ?_
  intro v1 h
  refine ru_getR h dX11_withdraw_5 lk_X11_165 ?_
  intro v2 h
  refine ru_iload_n (i := 1) dX11_withdraw_8 rfl rfl <| ?_
  obtain ⟨_, hrc, h⟩ := Option.bind_eq_some_iff.mp h
  obtain ⟨q3, hq3, h⟩ := Option.bind_eq_some_iff.mp h
  obtain ⟨v3, m3⟩ := q3
  cases v3 with
  | inl v3 =>
    dsimp only at h
    refine ru_callV (tm_X11_needRow hl0 (by omega) hq3) dX11_withdraw_9 rfl pm_X11_115 mf_X11_needRow (ab_rcv_of hrc rfl) rfl rfl (Nat.le_of_ble_eq_true rfl) ?_
    refine ru_aload_n (i := 0) dX11_withdraw_12 rfl rfl <| ?_
    refine ru_getR h dX11_withdraw_13 lk_X11_36 ?_
    intro v4 h
    refine ru_aload_n (i := 0) dX11_withdraw_16 rfl rfl <| ?_
    refine ru_getR h dX11_withdraw_17 lk_X11_26 ?_
    intro v5 h
    obtain ⟨_, hrc, h⟩ := Option.bind_eq_some_iff.mp h
    obtain ⟨q6, hq6, h⟩ := Option.bind_eq_some_iff.mp h
    refine ru_callV (tm_X4_remember hl0 (by omega) hq6) dX11_withdraw_20 rfl pm_X11_246 mf_X4_remember (ab_rcv_of hrc rfl) rfl rfl (Nat.le_of_ble_eq_true rfl) ?_
    refine ru_aload_n (i := 0) dX11_withdraw_23 rfl rfl <| ?_
    refine ru_getR h dX11_withdraw_24 lk_X11_26 ?_
    intro v7 h
    refine ru_iload_n (i := 1) dX11_withdraw_27 rfl rfl <| ?_
    obtain ⟨_, hrc, h⟩ := Option.bind_eq_some_iff.mp h
    obtain ⟨q8, hq8, h⟩ := Option.bind_eq_some_iff.mp h
    refine ru_callV (tm_X8_dropRequests hl0 (by omega) hq8) dX11_withdraw_28 rfl pm_X11_276 mf_X8_dropRequests (ab_rcv_of hrc rfl) rfl rfl (Nat.le_of_ble_eq_true rfl) ?_
    cases h
    exact ru_ret (v := some (.int _)) ⟨_, rfl, rfl, dX11_withdraw_31⟩
  | inr v3 =>
    dsimp only at h
    cases h
    exact ru_callVX (tm_X11_needRow hl0 (by omega) hq3) dX11_withdraw_9 rfl pm_X11_115 mf_X11_needRow (ab_rcv_of hrc rfl) rfl rfl (Nat.le_of_ble_eq_true rfl) rfl
theorem tm_X11_withdraw {l : Launch} {g : ab_G} (hl0 : l.stackTraces = false) {d : Nat} (hd : 4 ≤ d) {l0 : Nat} {l1 : Int32} {m : ab_Mm} {z : ((Int32 ⊕ Nat) × ab_Mm)} (h : dd_X11_withdraw l0 l1 m = some z) : ab_Met l g yX11_withdraw cX11_withdraw 2 (some .int) [] d [.ref l0, .int l1] m (ab_oxI z.1) z.2 := by
  obtain ⟨d2, rfl⟩ : ∃ d2, d = d2 + 1 := ⟨d - 1, by omega⟩
  exact ab_of hl0 (by decide +kernel) (Nat.le_of_ble_eq_true rfl) (fun q => by cases q) rfl (te_X11_withdraw hl0 hd _ _ _ _ h)
