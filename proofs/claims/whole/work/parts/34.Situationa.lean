/-! ===== the methods keep to these functions (by program) ===== -/
theorem tbb_X8_runs_26 {l : Launch} {g : ab_G} (hl0 : l.stackTraces = false) {d2 : Nat} (hd : 1 ≤ d2 + 1)   (s0 : Int32) (m0 : ab_Mm) (z : (Int32 × ab_Mm)) (h : bb_X8_runs_26  s0 m0 = some z) : ab_W l g cX8_runs RX8 2 (some .boolean) [] false (d2 + 1) (.inl (some (.int z.1))) z.2 26 [] [.int s0] m0 := by
  unfold bb_X8_runs_26 at h
  rcases ab_iff h with ⟨hc, h⟩ | ⟨hc, h⟩
  · cases h
  cases h
  exact ru_ret (v := some (.int _)) ⟨_, rfl, congrArg Value.int (Classical.not_not.mp hc), dX8_runs_26⟩
theorem tbb_X8_runs_25 {l : Launch} {g : ab_G} (hl0 : l.stackTraces = false) {d2 : Nat} (hd : 1 ≤ d2 + 1)    (m0 : ab_Mm) (z : (Int32 × ab_Mm)) (h : bb_X8_runs_25   m0 = some z) : ab_W l g cX8_runs RX8 2 (some .boolean) [] false (d2 + 1) (.inl (some (.int z.1))) z.2 25 [] [] m0 := by
  unfold bb_X8_runs_25 at h
  refine ru_iconst dX8_runs_25 kc_i_0 <| ?_
  exact ru_pick [] rfl (tbb_X8_runs_26 hl0 hd   _ _ _ h)
theorem te_X8_runs {l : Launch} {g : ab_G} (hl0 : l.stackTraces = false) {d2 : Nat} (hd : 1 ≤ d2 + 1)   (l0 : Nat) (l1 : Int32) (m0 : ab_Mm) (z : (Int32 × ab_Mm)) (h : dd_X8_runs  l0 l1 m0 = some z) : ab_W l g cX8_runs RX8 2 (some .boolean) [] false (d2 + 1) (.inl (some (.int z.1))) z.2 0 [(0, .ref l0), (1, .int l1)] [] m0 := by
  unfold dd_X8_runs at h
  refine ru_iload_n (i := 1) dX8_runs_0 rfl rfl <| ?_
  refine ru_if_lt (tgt := 25) dX8_runs_1 (by decide) (fun hc => ?_) (fun hc => ?_)
  · rw [if_pos hc] at h
    exact ru_pick [] rfl (tbb_X8_runs_25 hl0 hd    _ _ h)
  · rw [if_neg hc] at h
    refine ru_iload_n (i := 1) dX8_runs_4 rfl rfl <| ru_bipush dX8_runs_5 kc_b_12 <| ?_
    refine ru_icmp_ge (tgt := 25) dX8_runs_7 (by decide) (fun hc => ?_) (fun hc => ?_)
    · rw [if_pos hc] at h
      exact ru_pick [] rfl (tbb_X8_runs_25 hl0 hd    _ _ h)
    · rw [if_neg hc] at h
      refine ru_aload_n (i := 0) dX8_runs_10 rfl rfl <| ?_
      refine ru_getI h dX8_runs_11 lk_X8_15 ?_
      intro v1 h
      refine ru_iload_n (i := 1) dX8_runs_14 rfl rfl <| ru_ishr dX8_runs_15 <| ru_iconst dX8_runs_16 kc_i_1 <| ru_iand dX8_runs_17 <| ?_
      refine ru_if_eq (tgt := 25) dX8_runs_18 (by decide) (fun hc => ?_) (fun hc => ?_)
      · rw [if_pos hc] at h
        exact ru_pick [] rfl (tbb_X8_runs_25 hl0 hd    _ _ h)
      · rw [if_neg hc] at h
        refine ru_iconst dX8_runs_21 kc_i_1 <| ru_goto (tgt := 26) dX8_runs_22 (by decide) <| ?_
        exact ru_pick [] rfl (tbb_X8_runs_26 hl0 hd   _ _ _ h)
theorem tm_X8_runs {l : Launch} {g : ab_G} (hl0 : l.stackTraces = false) {d : Nat} (hd : 1 ≤ d) {l0 : Nat} {l1 : Int32} {m : ab_Mm} {z : (Int32 × ab_Mm)} (h : dd_X8_runs l0 l1 m = some z) : ab_Met l g yX8_runs cX8_runs 2 (some .boolean) [] d [.ref l0, .int l1] m (.inl (some (.int z.1))) z.2 := by
  obtain ⟨d2, rfl⟩ : ∃ d2, d = d2 + 1 := ⟨d - 1, by omega⟩
  exact ab_of hl0 (by decide +kernel) (Nat.le_of_ble_eq_true rfl) (fun q => by cases q) rfl (te_X8_runs hl0 hd _ _ _ _ h)
theorem tbb_X8_charge_24 {l : Launch} {g : ab_G} (hl0 : l.stackTraces = false) {d2 : Nat} (hd : 1 ≤ d2 + 1)    (m0 : ab_Mm) (z : (Unit × ab_Mm)) (h : bb_X8_charge_24   m0 = some z) : ab_W l g cX8_charge RX8 3 none [] false (d2 + 1) (.inl none) z.2 24 [] [] m0 := by
  unfold bb_X8_charge_24 at h
  cases h
  exact ru_ret (v := none) ⟨rfl, dX8_charge_24⟩
theorem te_X8_charge {l : Launch} {g : ab_G} (hl0 : l.stackTraces = false) {d2 : Nat} (hd : 1 ≤ d2 + 1)   (l0 : Nat) (l1 : Int32) (l2 : Int32) (m0 : ab_Mm) (z : (Unit × ab_Mm)) (h : dd_X8_charge  l0 l1 l2 m0 = some z) : ab_W l g cX8_charge RX8 3 none [] false (d2 + 1) (.inl none) z.2 0 [(0, .ref l0), (1, .int l1), (2, .int l2)] [] m0 := by
  unfold dd_X8_charge at h
  refine ru_iload_n (i := 1) dX8_charge_0 rfl rfl <| ?_
  refine ru_if_lt (tgt := 24) dX8_charge_1 (by decide) (fun hc => ?_) (fun hc => ?_)
  · rw [if_pos hc] at h
    exact ru_pick [] rfl (tbb_X8_charge_24 hl0 hd    _ _ h)
  · rw [if_neg hc] at h
    refine ru_iload_n (i := 1) dX8_charge_4 rfl rfl <| ru_aload_n (i := 0) dX8_charge_5 rfl rfl <| ?_
    refine ru_getR h dX8_charge_6 lk_X8_36 ?_
    intro v1 h
    refine ru_alen 3 h dX8_charge_9 ?_
    intro v2 h
    refine ru_icmp_ge (tgt := 24) dX8_charge_10 (by decide) (fun hc => ?_) (fun hc => ?_)
    · rw [if_pos hc] at h
      exact ru_pick [] rfl (tbb_X8_charge_24 hl0 hd    _ _ h)
    · rw [if_neg hc] at h
      refine ru_aload_n (i := 0) dX8_charge_13 rfl rfl <| ?_
      refine ru_getR h dX8_charge_14 lk_X8_36 ?_
      intro v3 h
      refine ru_iload_n (i := 1) dX8_charge_17 rfl rfl <| ru_dup2 dX8_charge_18 rfl rfl <| ?_
      refine ru_laload h dX8_charge_19 ?_
      intro v4 h
      refine ru_iload_n (i := 2) dX8_charge_20 rfl rfl <| ru_i2l dX8_charge_21 <| ru_ladd dX8_charge_22 <| ?_
      refine ru_lastore h dX8_charge_23 ?_
      intro m5 h
      exact ru_pick [] rfl (tbb_X8_charge_24 hl0 hd    _ _ h)
theorem tm_X8_charge {l : Launch} {g : ab_G} (hl0 : l.stackTraces = false) {d : Nat} (hd : 1 ≤ d) {l0 : Nat} {l1 : Int32} {l2 : Int32} {m : ab_Mm} {z : (Unit × ab_Mm)} (h : dd_X8_charge l0 l1 l2 m = some z) : ab_Met l g yX8_charge cX8_charge 3 none [] d [.ref l0, .int l1, .int l2] m (.inl none) z.2 := by
  obtain ⟨d2, rfl⟩ : ∃ d2, d = d2 + 1 := ⟨d - 1, by omega⟩
  exact ab_of hl0 (by decide +kernel) (Nat.le_of_ble_eq_true rfl) (fun q => by cases q) rfl (te_X8_charge hl0 hd _ _ _ _ _ h)
theorem te_X8_left {l : Launch} {g : ab_G} (hl0 : l.stackTraces = false) {d2 : Nat} (hd : 2 ≤ d2 + 1)   (l0 : Nat) (l1 : Nat) (l2 : Int32) (l3 : Int32) (m0 : ab_Mm) (z : (Int32 × ab_Mm)) (h : dd_X8_left  l0 l1 l2 l3 m0 = some z) : ab_W l g cX8_left RX8 4 (some .int) [] false (d2 + 1) (.inl (some (.int z.1))) z.2 0 [(0, .ref l0), (1, .ref l1), (2, .int l2), (3, .int l3)] [] m0 := by
  unfold dd_X8_left at h
  refine ru_aload_n (i := 1) dX8_left_0 rfl rfl <| ?_
  refine ru_getR h dX8_left_1 lk_X8_93 ?_
  intro v1 h
  refine ru_iload_n (i := 2) dX8_left_4 rfl rfl <| ru_iload_n (i := 3) dX8_left_5 rfl rfl <| ?_
  obtain ⟨_, hrc, h⟩ := Option.bind_eq_some_iff.mp h
  obtain ⟨q2, hq2, h⟩ := Option.bind_eq_some_iff.mp h
  refine ru_callV (tm_X10_get hl0 (by omega) hq2) dX8_left_6 rfl pm_X8_79 mf_X10_get (ab_rcv_of hrc rfl) rfl rfl (Nat.le_of_ble_eq_true rfl) ?_
  refine ru_aload_n (i := 0) dX8_left_9 rfl rfl <| ?_
  refine ru_getR h dX8_left_10 lk_X8_33 ?_
  intro v3 h
  refine ru_iload_n (i := 2) dX8_left_13 rfl rfl <| ru_iload_n (i := 3) dX8_left_14 rfl rfl <| ?_
  obtain ⟨_, hrc, h⟩ := Option.bind_eq_some_iff.mp h
  obtain ⟨q4, hq4, h⟩ := Option.bind_eq_some_iff.mp h
  refine ru_callV (tm_X10_get hl0 (by omega) hq4) dX8_left_15 rfl pm_X8_79 mf_X10_get (ab_rcv_of hrc rfl) rfl rfl (Nat.le_of_ble_eq_true rfl) ?_
  refine ru_isub dX8_left_18 <| ?_
  cases h
  exact ru_ret (v := some (.int _)) ⟨_, rfl, rfl, dX8_left_19⟩
theorem tm_X8_left {l : Launch} {g : ab_G} (hl0 : l.stackTraces = false) {d : Nat} (hd : 2 ≤ d) {l0 : Nat} {l1 : Nat} {l2 : Int32} {l3 : Int32} {m : ab_Mm} {z : (Int32 × ab_Mm)} (h : dd_X8_left l0 l1 l2 l3 m = some z) : ab_Met l g yX8_left cX8_left 4 (some .int) [] d [.ref l0, .ref l1, .int l2, .int l3] m (.inl (some (.int z.1))) z.2 := by
  obtain ⟨d2, rfl⟩ : ∃ d2, d = d2 + 1 := ⟨d - 1, by omega⟩
  exact ab_of hl0 (by decide +kernel) (Nat.le_of_ble_eq_true rfl) (fun q => by cases q) rfl (te_X8_left hl0 hd _ _ _ _ _ _ h)
theorem te_X8_moveCost {l : Launch} {g : ab_G} (hl0 : l.stackTraces = false) {d2 : Nat} (hd : 4 ≤ d2 + 1)   (l0 : Nat) (l1 : Nat) (l2 : Int32) (m0 : ab_Mm) (z : (Int32 × ab_Mm)) (h : dd_X8_moveCost  l0 l1 l2 m0 = some z) : ab_W l g cX8_moveCost RX8 4 (some .int) [] false (d2 + 1) (.inl (some (.int z.1))) z.2 0 [(0, .ref l0), (1, .ref l1), (2, .int l2)] [] m0 := by
  unfold dd_X8_moveCost at h
  refine ru_aload_n (i := 0) dX8_moveCost_0 rfl rfl <| ?_
  refine ru_getI h dX8_moveCost_1 lk_X8_9 ?_
  intro v1 h
  refine ru_aload_n (i := 0) dX8_moveCost_4 rfl rfl <| ?_
  refine ru_getR h dX8_moveCost_5 lk_X8_23 ?_
  intro v2 h
  refine ru_iload_n (i := 2) dX8_moveCost_8 rfl rfl <| ru_iconst dX8_moveCost_9 kc_i_5 <| ?_
  obtain ⟨_, hrc, h⟩ := Option.bind_eq_some_iff.mp h
  obtain ⟨q3, hq3, h⟩ := Option.bind_eq_some_iff.mp h
  refine ru_callV (tm_X10_get hl0 (by omega) hq3) dX8_moveCost_10 rfl pm_X8_79 mf_X10_get (ab_rcv_of hrc rfl) rfl rfl (Nat.le_of_ble_eq_true rfl) ?_
  refine ru_isub dX8_moveCost_13 <| ru_istore_n (i := 3) dX8_moveCost_14 rfl (by decide) <| ru_iconst dX8_moveCost_15 kc_i_0 <| ru_aload_n (i := 1) dX8_moveCost_16 rfl rfl <| ?_
  refine ru_getR h dX8_moveCost_17 lk_X8_110 ?_
  intro v4 h
  refine ru_aload_n (i := 1) dX8_moveCost_20 rfl rfl <| ?_
  refine ru_getR h dX8_moveCost_21 lk_X8_96 ?_
  intro v5 h
  refine ru_aload_n (i := 0) dX8_moveCost_24 rfl rfl <| ?_
  refine ru_getR h dX8_moveCost_25 lk_X8_23 ?_
  intro v6 h
  refine ru_iload_n (i := 2) dX8_moveCost_28 rfl rfl <| ru_iconst dX8_moveCost_29 kc_i_1 <| ?_
  obtain ⟨_, hrc, h⟩ := Option.bind_eq_some_iff.mp h
  obtain ⟨q7, hq7, h⟩ := Option.bind_eq_some_iff.mp h
  refine ru_callV (tm_X10_get hl0 (by omega) hq7) dX8_moveCost_30 rfl pm_X8_79 mf_X10_get (ab_rcv_of hrc rfl) rfl rfl (Nat.le_of_ble_eq_true rfl) ?_
  refine ru_iload_n (i := 3) dX8_moveCost_33 rfl rfl <| ?_
  obtain ⟨_, hrc, h⟩ := Option.bind_eq_some_iff.mp h
  obtain ⟨q8, hq8, h⟩ := Option.bind_eq_some_iff.mp h
  refine ru_callV (tm_X9_value hl0 (by omega) hq8) dX8_moveCost_34 rfl pm_X8_114 mf_X9_value (ab_rcv_of hrc rfl) rfl rfl (Nat.le_of_ble_eq_true rfl) ?_
  refine ru_mmax dX8_moveCost_37 ⟨pm_X8_120, pq_max_s, pq_ini, pq_max_c⟩ (Nat.le_of_ble_eq_true rfl) <| ?_
  cases h
  exact ru_ret (v := some (.int _)) ⟨_, rfl, rfl, dX8_moveCost_40⟩
theorem tm_X8_moveCost {l : Launch} {g : ab_G} (hl0 : l.stackTraces = false) {d : Nat} (hd : 4 ≤ d) {l0 : Nat} {l1 : Nat} {l2 : Int32} {m : ab_Mm} {z : (Int32 × ab_Mm)} (h : dd_X8_moveCost l0 l1 l2 m = some z) : ab_Met l g yX8_moveCost cX8_moveCost 4 (some .int) [] d [.ref l0, .ref l1, .int l2] m (.inl (some (.int z.1))) z.2 := by
  obtain ⟨d2, rfl⟩ : ∃ d2, d = d2 + 1 := ⟨d - 1, by omega⟩
  exact ab_of hl0 (by decide +kernel) (Nat.le_of_ble_eq_true rfl) (fun q => by cases q) rfl (te_X8_moveCost hl0 hd _ _ _ _ _ h)
theorem te_X8_load {l : Launch} {g : ab_G} (hl0 : l.stackTraces = false) {d2 : Nat} (hd : 3 ≤ d2 + 1)   (l0 : Nat) (l1 : Nat) (l2 : Int32) (l3 : Int32) (m0 : ab_Mm) (z : (Unit × ab_Mm)) (h : dd_X8_load  l0 l1 l2 l3 m0 = some z) : ab_W l g cX8_load RX8 6 none [] false (d2 + 1) (.inl none) z.2 0 [(0, .ref l0), (1, .ref l1), (2, .int l2), (3, .int l3)] [] m0 := by
  unfold dd_X8_load at h
  refine ru_aload_n (i := 0) dX8_load_0 rfl rfl <| ?_
  refine ru_getR h dX8_load_1 lk_X8_23 ?_
  intro v1 h
  refine ru_iload_n (i := 2) dX8_load_4 rfl rfl <| ru_iconst dX8_load_5 kc_i_1 <| ?_
  obtain ⟨_, hrc, h⟩ := Option.bind_eq_some_iff.mp h
  obtain ⟨q2, hq2, h⟩ := Option.bind_eq_some_iff.mp h
  refine ru_callV (tm_X10_get hl0 (by omega) hq2) dX8_load_6 rfl pm_X8_79 mf_X10_get (ab_rcv_of hrc rfl) rfl rfl (Nat.le_of_ble_eq_true rfl) ?_
  refine ru_istore dX8_load_9 (by decide) <| ru_aload_n (i := 0) dX8_load_11 rfl rfl <| ?_
  refine ru_getR h dX8_load_12 lk_X8_23 ?_
  intro v3 h
  refine ru_iload_n (i := 2) dX8_load_15 rfl rfl <| ru_iconst dX8_load_16 kc_i_3 <| ?_
  obtain ⟨_, hrc, h⟩ := Option.bind_eq_some_iff.mp h
  obtain ⟨q4, hq4, h⟩ := Option.bind_eq_some_iff.mp h
  refine ru_callV (tm_X10_get hl0 (by omega) hq4) dX8_load_17 rfl pm_X8_79 mf_X10_get (ab_rcv_of hrc rfl) rfl rfl (Nat.le_of_ble_eq_true rfl) ?_
  refine ru_istore dX8_load_20 (by decide) <| ru_aload_n (i := 0) dX8_load_22 rfl rfl <| ?_
  refine ru_getR h dX8_load_23 lk_X8_33 ?_
  intro v5 h
  refine ru_iload dX8_load_26 rfl <| ru_iconst dX8_load_28 kc_i_0 <| ru_iload_n (i := 3) dX8_load_29 rfl rfl <| ru_aload_n (i := 1) dX8_load_30 rfl rfl <| ?_
  refine ru_getR h dX8_load_31 lk_X8_96 ?_
  intro v6 h
  refine ru_iload dX8_load_34 rfl <| ru_iconst dX8_load_36 kc_i_0 <| ?_
  obtain ⟨_, hrc, h⟩ := Option.bind_eq_some_iff.mp h
  obtain ⟨q7, hq7, h⟩ := Option.bind_eq_some_iff.mp h
  refine ru_callV (tm_X10_get hl0 (by omega) hq7) dX8_load_37 rfl pm_X8_79 mf_X10_get (ab_rcv_of hrc rfl) rfl rfl (Nat.le_of_ble_eq_true rfl) ?_
  refine ru_imul dX8_load_40 <| ?_
  obtain ⟨_, hrc, h⟩ := Option.bind_eq_some_iff.mp h
  obtain ⟨q8, hq8, h⟩ := Option.bind_eq_some_iff.mp h
  refine ru_callV (tm_X10_add hl0 (by omega) hq8) dX8_load_41 rfl pm_X8_185 mf_X10_add (ab_rcv_of hrc rfl) rfl rfl (Nat.le_of_ble_eq_true rfl) ?_
  refine ru_aload_n (i := 0) dX8_load_44 rfl rfl <| ?_
  refine ru_getR h dX8_load_45 lk_X8_33 ?_
  intro v9 h
  refine ru_iload dX8_load_48 rfl <| ru_iconst dX8_load_50 kc_i_1 <| ru_iload_n (i := 3) dX8_load_51 rfl rfl <| ru_aload_n (i := 1) dX8_load_52 rfl rfl <| ?_
  refine ru_getR h dX8_load_53 lk_X8_96 ?_
  intro v10 h
  refine ru_iload dX8_load_56 rfl <| ru_iconst dX8_load_58 kc_i_1 <| ?_
  obtain ⟨_, hrc, h⟩ := Option.bind_eq_some_iff.mp h
  obtain ⟨q11, hq11, h⟩ := Option.bind_eq_some_iff.mp h
  refine ru_callV (tm_X10_get hl0 (by omega) hq11) dX8_load_59 rfl pm_X8_79 mf_X10_get (ab_rcv_of hrc rfl) rfl rfl (Nat.le_of_ble_eq_true rfl) ?_
  refine ru_imul dX8_load_62 <| ?_
  obtain ⟨_, hrc, h⟩ := Option.bind_eq_some_iff.mp h
  obtain ⟨q12, hq12, h⟩ := Option.bind_eq_some_iff.mp h
  refine ru_callV (tm_X10_add hl0 (by omega) hq12) dX8_load_63 rfl pm_X8_185 mf_X10_add (ab_rcv_of hrc rfl) rfl rfl (Nat.le_of_ble_eq_true rfl) ?_
  cases h
  exact ru_ret (v := none) ⟨rfl, dX8_load_66⟩
theorem tm_X8_load {l : Launch} {g : ab_G} (hl0 : l.stackTraces = false) {d : Nat} (hd : 3 ≤ d) {l0 : Nat} {l1 : Nat} {l2 : Int32} {l3 : Int32} {m : ab_Mm} {z : (Unit × ab_Mm)} (h : dd_X8_load l0 l1 l2 l3 m = some z) : ab_Met l g yX8_load cX8_load 6 none [] d [.ref l0, .ref l1, .int l2, .int l3] m (.inl none) z.2 := by
  obtain ⟨d2, rfl⟩ : ∃ d2, d = d2 + 1 := ⟨d - 1, by omega⟩
  exact ab_of hl0 (by decide +kernel) (Nat.le_of_ble_eq_true rfl) (fun q => by cases q) rfl (te_X8_load hl0 hd _ _ _ _ _ _ h)
theorem te_X8_moveTo {l : Launch} {g : ab_G} (hl0 : l.stackTraces = false) {d2 : Nat} (hd : 5 ≤ d2 + 1)   (l0 : Nat) (l1 : Nat) (l2 : Int32) (l3 : Int32) (m0 : ab_Mm) (z : (Int32 × ab_Mm)) (h : dd_X8_moveTo  l0 l1 l2 l3 m0 = some z) : ab_W l g cX8_moveTo RX8 5 (some .int) [] false (d2 + 1) (.inl (some (.int z.1))) z.2 0 [(0, .ref l0), (1, .ref l1), (2, .int l2), (3, .int l3)] [] m0 := by
  unfold dd_X8_moveTo at h
  refine ru_aload_n (i := 0) dX8_moveTo_0 rfl rfl <| ru_aload_n (i := 1) dX8_moveTo_1 rfl rfl <| ru_iload_n (i := 2) dX8_moveTo_2 rfl rfl <| ?_
  obtain ⟨_, hrc, h⟩ := Option.bind_eq_some_iff.mp h
  obtain ⟨q1, hq1, h⟩ := Option.bind_eq_some_iff.mp h
  refine ru_callV (tm_X8_moveCost hl0 (by omega) hq1) dX8_moveTo_3 rfl pm_X8_134 mf_X8_moveCost (ab_rcv_of hrc rfl) rfl rfl (Nat.le_of_ble_eq_true rfl) ?_
  refine ru_istore dX8_moveTo_6 (by decide) <| ru_aload_n (i := 0) dX8_moveTo_8 rfl rfl <| ru_aload_n (i := 1) dX8_moveTo_9 rfl rfl <| ru_iload_n (i := 2) dX8_moveTo_10 rfl rfl <| ru_iconst dX8_moveTo_11 kc_i_m1 <| ?_
  obtain ⟨_, hrc, h⟩ := Option.bind_eq_some_iff.mp h
  obtain ⟨q2, hq2, h⟩ := Option.bind_eq_some_iff.mp h
  refine ru_callV (tm_X8_load hl0 (by omega) hq2) dX8_moveTo_12 rfl pm_X8_130 mf_X8_load (ab_rcv_of hrc rfl) rfl rfl (Nat.le_of_ble_eq_true rfl) ?_
  refine ru_aload_n (i := 0) dX8_moveTo_15 rfl rfl <| ?_
  refine ru_getR h dX8_moveTo_16 lk_X8_23 ?_
  intro v3 h
  refine ru_iload_n (i := 2) dX8_moveTo_19 rfl rfl <| ru_iconst dX8_moveTo_20 kc_i_3 <| ru_iload_n (i := 3) dX8_moveTo_21 rfl rfl <| ?_
  obtain ⟨_, hrc, h⟩ := Option.bind_eq_some_iff.mp h
  obtain ⟨q4, hq4, h⟩ := Option.bind_eq_some_iff.mp h
  refine ru_callV (tm_X10_set hl0 (by omega) hq4) dX8_moveTo_22 rfl pm_X8_127 mf_X10_set (ab_rcv_of hrc rfl) rfl rfl (Nat.le_of_ble_eq_true rfl) ?_
  refine ru_aload_n (i := 0) dX8_moveTo_25 rfl rfl <| ru_aload_n (i := 1) dX8_moveTo_26 rfl rfl <| ru_iload_n (i := 2) dX8_moveTo_27 rfl rfl <| ru_iconst dX8_moveTo_28 kc_i_1 <| ?_
  obtain ⟨_, hrc, h⟩ := Option.bind_eq_some_iff.mp h
  obtain ⟨q5, hq5, h⟩ := Option.bind_eq_some_iff.mp h
  refine ru_callV (tm_X8_load hl0 (by omega) hq5) dX8_moveTo_29 rfl pm_X8_130 mf_X8_load (ab_rcv_of hrc rfl) rfl rfl (Nat.le_of_ble_eq_true rfl) ?_
  refine ru_aload_n (i := 0) dX8_moveTo_32 rfl rfl <| ru_aload_n (i := 0) dX8_moveTo_33 rfl rfl <| ?_
  refine ru_getR h dX8_moveTo_34 lk_X8_23 ?_
  intro v6 h
  refine ru_iload_n (i := 2) dX8_moveTo_37 rfl rfl <| ru_iconst dX8_moveTo_38 kc_i_0 <| ?_
  obtain ⟨_, hrc, h⟩ := Option.bind_eq_some_iff.mp h
  obtain ⟨q7, hq7, h⟩ := Option.bind_eq_some_iff.mp h
  refine ru_callV (tm_X10_get hl0 (by omega) hq7) dX8_moveTo_39 rfl pm_X8_79 mf_X10_get (ab_rcv_of hrc rfl) rfl rfl (Nat.le_of_ble_eq_true rfl) ?_
  refine ru_iload dX8_moveTo_42 rfl <| ?_
  obtain ⟨_, hrc, h⟩ := Option.bind_eq_some_iff.mp h
  obtain ⟨q8, hq8, h⟩ := Option.bind_eq_some_iff.mp h
  refine ru_callV (tm_X8_charge hl0 (by omega) hq8) dX8_moveTo_44 rfl pm_X8_138 mf_X8_charge (ab_rcv_of hrc rfl) rfl rfl (Nat.le_of_ble_eq_true rfl) ?_
  refine ru_iload dX8_moveTo_47 rfl <| ?_
  cases h
  exact ru_ret (v := some (.int _)) ⟨_, rfl, rfl, dX8_moveTo_49⟩
theorem tm_X8_moveTo {l : Launch} {g : ab_G} (hl0 : l.stackTraces = false) {d : Nat} (hd : 5 ≤ d) {l0 : Nat} {l1 : Nat} {l2 : Int32} {l3 : Int32} {m : ab_Mm} {z : (Int32 × ab_Mm)} (h : dd_X8_moveTo l0 l1 l2 l3 m = some z) : ab_Met l g yX8_moveTo cX8_moveTo 5 (some .int) [] d [.ref l0, .ref l1, .int l2, .int l3] m (.inl (some (.int z.1))) z.2 := by
  obtain ⟨d2, rfl⟩ : ∃ d2, d = d2 + 1 := ⟨d - 1, by omega⟩
  exact ab_of hl0 (by decide +kernel) (Nat.le_of_ble_eq_true rfl) (fun q => by cases q) rfl (te_X8_moveTo hl0 hd _ _ _ _ _ _ h)
theorem te_X8_init {l : Launch} {g : ab_G} (hl0 : l.stackTraces = false) {d2 : Nat} (hd : 2 ≤ d2 + 1)   (l0 : Nat) (m0 : ab_Mm) (z : (Unit × ab_Mm)) (h : dd_X8_init  l0 m0 = some z) : ab_W l g cX8_init RX8 1 none [] true (d2 + 1) (.inl none) z.2 0 [(0, .ref l0)] [] m0 := by
  unfold dd_X8_init at h
  refine ru_aload_n (i := 0) dX8_init_0 rfl rfl <| ru_objInit dX8_init_1 ⟨pm_X8_3, po_inst, po_code⟩ (Nat.le_of_ble_eq_true rfl) <| ru_aload_n (i := 0) dX8_init_4 rfl rfl <| ru_iconst dX8_init_5 kc_i_0 <| ?_
  refine ru_putI h dX8_init_6 lk_X8_9 ?_
  intro m1 h
  refine ru_aload_n (i := 0) dX8_init_9 rfl rfl <| ru_iconst dX8_init_10 kc_i_0 <| ?_
  refine ru_putI h dX8_init_11 lk_X8_15 ?_
  intro m2 h
  refine ru_aload_n (i := 0) dX8_init_14 rfl rfl <| ?_
  refine ru_new h dX8_init_15 nw_X8_18 ?_
  intro q3 h
  refine ru_dup dX8_init_18 rfl <| ru_bipush dX8_init_19 kc_b_12 <| ru_bipush dX8_init_21 kc_b_6 <| ?_
  obtain ⟨q4, hq4, h⟩ := Option.bind_eq_some_iff.mp h
  refine ru_callI rfl (tm_X10_init hl0 (by omega) hq4) dX8_init_23 rfl (Or.inl pm_X8_20) mf_X10_init rfl rfl (Nat.le_of_ble_eq_true rfl) ?_
  refine ru_putR h dX8_init_26 lk_X8_23 (fun _ => ⟨rfl, rfl⟩) rfl (fun q hq => by cases hq; rfl) (fun q hq => by cases hq; exact pf_X8_23) ?_
  intro m5 h
  refine ru_aload_n (i := 0) dX8_init_29 rfl rfl <| ?_
  refine ru_new h dX8_init_30 nw_X8_18 ?_
  intro q6 h
  refine ru_dup dX8_init_33 rfl <| ru_bipush dX8_init_34 kc_b_10 <| ru_iconst dX8_init_36 kc_i_3 <| ?_
  obtain ⟨q7, hq7, h⟩ := Option.bind_eq_some_iff.mp h
  refine ru_callI rfl (tm_X10_init hl0 (by omega) hq7) dX8_init_37 rfl (Or.inl pm_X8_20) mf_X10_init rfl rfl (Nat.le_of_ble_eq_true rfl) ?_
  refine ru_putR h dX8_init_40 lk_X8_27 (fun _ => ⟨rfl, rfl⟩) rfl (fun q hq => by cases hq; rfl) (fun q hq => by cases hq; exact pf_X8_27) ?_
  intro m8 h
  refine ru_aload_n (i := 0) dX8_init_43 rfl rfl <| ?_
  refine ru_new h dX8_init_44 nw_X8_18 ?_
  intro q9 h
  refine ru_dup dX8_init_47 rfl <| ru_bipush dX8_init_48 kc_b_6 <| ru_iconst dX8_init_50 kc_i_1 <| ?_
  obtain ⟨q10, hq10, h⟩ := Option.bind_eq_some_iff.mp h
  refine ru_callI rfl (tm_X10_init hl0 (by omega) hq10) dX8_init_51 rfl (Or.inl pm_X8_20) mf_X10_init rfl rfl (Nat.le_of_ble_eq_true rfl) ?_
  refine ru_putR h dX8_init_54 lk_X8_30 (fun _ => ⟨rfl, rfl⟩) rfl (fun q hq => by cases hq; rfl) (fun q hq => by cases hq; exact pf_X8_30) ?_
  intro m11 h
  refine ru_aload_n (i := 0) dX8_init_57 rfl rfl <| ?_
  refine ru_new h dX8_init_58 nw_X8_18 ?_
  intro q12 h
  refine ru_dup dX8_init_61 rfl <| ru_bipush dX8_init_62 kc_b_8 <| ru_iconst dX8_init_64 kc_i_2 <| ?_
  obtain ⟨q13, hq13, h⟩ := Option.bind_eq_some_iff.mp h
  refine ru_callI rfl (tm_X10_init hl0 (by omega) hq13) dX8_init_65 rfl (Or.inl pm_X8_20) mf_X10_init rfl rfl (Nat.le_of_ble_eq_true rfl) ?_
  refine ru_putR h dX8_init_68 lk_X8_33 (fun _ => ⟨rfl, rfl⟩) rfl (fun q hq => by cases hq; rfl) (fun q hq => by cases hq; exact pf_X8_33) ?_
  intro m14 h
  refine ru_aload_n (i := 0) dX8_init_71 rfl rfl <| ru_bipush dX8_init_72 kc_b_6 <| ?_
  refine ru_newJ h dX8_init_74 fa_long ?_
  intro q15 h
  refine ru_putR h dX8_init_76 lk_X8_36 (fun _ => ⟨rfl, rfl⟩) rfl (fun q hq => by cases hq; rfl) (fun q hq => by cases hq; exact pf_X8_36) ?_
  intro m16 h
  cases h
  exact ru_ret (v := none) ⟨rfl, dX8_init_79⟩
theorem tm_X8_init {l : Launch} {g : ab_G} (hl0 : l.stackTraces = false) {d : Nat} (hd : 2 ≤ d) {l0 : Nat} {m : ab_Mm} {z : (Unit × ab_Mm)} (h : dd_X8_init l0 m = some z) : ab_Met l g yX8_init cX8_init 1 none [] d [.ref l0] m (.inl none) z.2 := by
  obtain ⟨d2, rfl⟩ : ∃ d2, d = d2 + 1 := ⟨d - 1, by omega⟩
  exact ab_of hl0 (by decide +kernel) (Nat.le_of_ble_eq_true rfl) (fun _ => rfl) rfl (te_X8_init hl0 hd _ _ _ h)
theorem te_X8_copyFrom {l : Launch} {g : ab_G} (hl0 : l.stackTraces = false) {d2 : Nat} (hd : 2 ≤ d2 + 1)   (l0 : Nat) (l1 : Nat) (m0 : ab_Mm) (z : (Unit × ab_Mm)) (h : dd_X8_copyFrom  l0 l1 m0 = some z) : ab_W l g cX8_copyFrom RX8 2 none [] false (d2 + 1) (.inl none) z.2 0 [(0, .ref l0), (1, .ref l1)] [] m0 := by
  unfold dd_X8_copyFrom at h
  refine ru_aload_n (i := 0) dX8_copyFrom_0 rfl rfl <| ru_aload_n (i := 1) dX8_copyFrom_1 rfl rfl <| ?_
  refine ru_getI h dX8_copyFrom_2 lk_X8_9 ?_
  intro v1 h
  refine ru_putI h dX8_copyFrom_5 lk_X8_9 ?_
  intro m2 h
  refine ru_aload_n (i := 0) dX8_copyFrom_8 rfl rfl <| ru_aload_n (i := 1) dX8_copyFrom_9 rfl rfl <| ?_
  refine ru_getI h dX8_copyFrom_10 lk_X8_15 ?_
  intro v3 h
  refine ru_putI h dX8_copyFrom_13 lk_X8_15 ?_
  intro m4 h
  refine ru_aload_n (i := 0) dX8_copyFrom_16 rfl rfl <| ?_
  refine ru_getR h dX8_copyFrom_17 lk_X8_23 ?_
  intro v5 h
  refine ru_aload_n (i := 1) dX8_copyFrom_20 rfl rfl <| ?_
  refine ru_getR h dX8_copyFrom_21 lk_X8_23 ?_
  intro v6 h
  obtain ⟨_, hrc, h⟩ := Option.bind_eq_some_iff.mp h
  obtain ⟨q7, hq7, h⟩ := Option.bind_eq_some_iff.mp h
  refine ru_callV (tm_X10_copyFrom hl0 (by omega) hq7) dX8_copyFrom_24 rfl pm_X8_53 mf_X10_copyFrom (ab_rcv_of hrc rfl) rfl rfl (Nat.le_of_ble_eq_true rfl) ?_
  refine ru_aload_n (i := 0) dX8_copyFrom_27 rfl rfl <| ?_
  refine ru_getR h dX8_copyFrom_28 lk_X8_27 ?_
  intro v8 h
  refine ru_aload_n (i := 1) dX8_copyFrom_31 rfl rfl <| ?_
  refine ru_getR h dX8_copyFrom_32 lk_X8_27 ?_
  intro v9 h
  obtain ⟨_, hrc, h⟩ := Option.bind_eq_some_iff.mp h
  obtain ⟨q10, hq10, h⟩ := Option.bind_eq_some_iff.mp h
  refine ru_callV (tm_X10_copyFrom hl0 (by omega) hq10) dX8_copyFrom_35 rfl pm_X8_53 mf_X10_copyFrom (ab_rcv_of hrc rfl) rfl rfl (Nat.le_of_ble_eq_true rfl) ?_
  refine ru_aload_n (i := 0) dX8_copyFrom_38 rfl rfl <| ?_
  refine ru_getR h dX8_copyFrom_39 lk_X8_30 ?_
  intro v11 h
  refine ru_aload_n (i := 1) dX8_copyFrom_42 rfl rfl <| ?_
  refine ru_getR h dX8_copyFrom_43 lk_X8_30 ?_
  intro v12 h
  obtain ⟨_, hrc, h⟩ := Option.bind_eq_some_iff.mp h
  obtain ⟨q13, hq13, h⟩ := Option.bind_eq_some_iff.mp h
  refine ru_callV (tm_X10_copyFrom hl0 (by omega) hq13) dX8_copyFrom_46 rfl pm_X8_53 mf_X10_copyFrom (ab_rcv_of hrc rfl) rfl rfl (Nat.le_of_ble_eq_true rfl) ?_
  refine ru_aload_n (i := 0) dX8_copyFrom_49 rfl rfl <| ?_
  refine ru_getR h dX8_copyFrom_50 lk_X8_33 ?_
  intro v14 h
  refine ru_aload_n (i := 1) dX8_copyFrom_53 rfl rfl <| ?_
  refine ru_getR h dX8_copyFrom_54 lk_X8_33 ?_
  intro v15 h
  obtain ⟨_, hrc, h⟩ := Option.bind_eq_some_iff.mp h
  obtain ⟨q16, hq16, h⟩ := Option.bind_eq_some_iff.mp h
  refine ru_callV (tm_X10_copyFrom hl0 (by omega) hq16) dX8_copyFrom_57 rfl pm_X8_53 mf_X10_copyFrom (ab_rcv_of hrc rfl) rfl rfl (Nat.le_of_ble_eq_true rfl) ?_
  refine ru_aload_n (i := 1) dX8_copyFrom_60 rfl rfl <| ?_
  refine ru_getR h dX8_copyFrom_61 lk_X8_36 ?_
  intro v17 h
  refine ru_iconst dX8_copyFrom_64 kc_i_0 <| ru_aload_n (i := 0) dX8_copyFrom_65 rfl rfl <| ?_
  refine ru_getR h dX8_copyFrom_66 lk_X8_36 ?_
  intro v18 h
  refine ru_iconst dX8_copyFrom_69 kc_i_0 <| ru_aload_n (i := 0) dX8_copyFrom_70 rfl rfl <| ?_
  refine ru_getR h dX8_copyFrom_71 lk_X8_36 ?_
  intro v19 h
  refine ru_alen 3 h dX8_copyFrom_74 ?_
  intro v20 h
  refine ru_aload_n (i := 1) dX8_copyFrom_75 rfl rfl <| ?_
  refine ru_getR h dX8_copyFrom_76 lk_X8_36 ?_
  intro v21 h
  refine ru_alen 3 h dX8_copyFrom_79 ?_
  intro v22 h
  refine ru_mmin dX8_copyFrom_80 ⟨pm_X8_57, pq_min_s, pq_ini, pq_min_c⟩ (Nat.le_of_ble_eq_true rfl) <| ?_
  refine ru_copyJ h dX8_copyFrom_83 ⟨pm_X8_63, pr_n, pr_s, pr_i⟩ (Nat.le_of_ble_eq_true rfl) ?_
  intro m23 h
  cases h
  exact ru_ret (v := none) ⟨rfl, dX8_copyFrom_86⟩
theorem tm_X8_copyFrom {l : Launch} {g : ab_G} (hl0 : l.stackTraces = false) {d : Nat} (hd : 2 ≤ d) {l0 : Nat} {l1 : Nat} {m : ab_Mm} {z : (Unit × ab_Mm)} (h : dd_X8_copyFrom l0 l1 m = some z) : ab_Met l g yX8_copyFrom cX8_copyFrom 2 none [] d [.ref l0, .ref l1] m (.inl none) z.2 := by
  obtain ⟨d2, rfl⟩ : ∃ d2, d = d2 + 1 := ⟨d - 1, by omega⟩
  exact ab_of hl0 (by decide +kernel) (Nat.le_of_ble_eq_true rfl) (fun q => by cases q) rfl (te_X8_copyFrom hl0 hd _ _ _ _ h)
theorem tbb_X8_manyOf_37 {l : Launch} {g : ab_G} (hl0 : l.stackTraces = false) {d2 : Nat} (hd : 2 ≤ d2 + 1) (r4 : Nat → Int32 → Int32 → Int32 → ab_Mm → Option (Int32 × ab_Mm)) (hr4 : ∀ (l0 : Nat) (l1 : Int32) (l2 : Int32) (l3 : Int32) (m : ab_Mm) (z : (Int32 × ab_Mm)), r4 l0 l1 l2 l3 m = some z → ab_W l g cX8_manyOf RX8 4 (some .int) [] false (d2 + 1) (.inl (some (.int z.1))) z.2 4 [(0, .ref l0), (1, .int l1), (2, .int l2), (3, .int l3)] [] m) (l0 : Nat) (l1 : Int32) (l3 : Int32) (s0 : Int32) (s1 : Int32) (m0 : ab_Mm) (z : (Int32 × ab_Mm)) (h : bb_X8_manyOf_37 r4 l0 l1 l3 s0 s1 m0 = some z) : ab_W l g cX8_manyOf RX8 4 (some .int) [] false (d2 + 1) (.inl (some (.int z.1))) z.2 37 [(0, .ref l0), (1, .int l1), (3, .int l3)] [.int s1, .int s0] m0 := by
  unfold bb_X8_manyOf_37 at h
  refine ru_iadd dX8_manyOf_37 <| ru_istore_n (i := 2) dX8_manyOf_38 rfl (by decide) <| ru_iinc dX8_manyOf_39 (by decide) rfl (ab_inc kc_i_1) <| ru_goto (tgt := 4) dX8_manyOf_42 (by decide) <| ?_
  exact ru_pick [0, 1, 2, 3] rfl (hr4 _ _ _ _ _ _ h)
theorem tbb_X8_manyOf_36 {l : Launch} {g : ab_G} (hl0 : l.stackTraces = false) {d2 : Nat} (hd : 2 ≤ d2 + 1) (r4 : Nat → Int32 → Int32 → Int32 → ab_Mm → Option (Int32 × ab_Mm)) (hr4 : ∀ (l0 : Nat) (l1 : Int32) (l2 : Int32) (l3 : Int32) (m : ab_Mm) (z : (Int32 × ab_Mm)), r4 l0 l1 l2 l3 m = some z → ab_W l g cX8_manyOf RX8 4 (some .int) [] false (d2 + 1) (.inl (some (.int z.1))) z.2 4 [(0, .ref l0), (1, .int l1), (2, .int l2), (3, .int l3)] [] m) (l0 : Nat) (l1 : Int32) (l3 : Int32) (s0 : Int32) (m0 : ab_Mm) (z : (Int32 × ab_Mm)) (h : bb_X8_manyOf_36 r4 l0 l1 l3 s0 m0 = some z) : ab_W l g cX8_manyOf RX8 4 (some .int) [] false (d2 + 1) (.inl (some (.int z.1))) z.2 36 [(0, .ref l0), (1, .int l1), (3, .int l3)] [.int s0] m0 := by
  unfold bb_X8_manyOf_36 at h
  refine ru_iconst dX8_manyOf_36 kc_i_0 <| ?_
  exact ru_pick [0, 1, 3] rfl (tbb_X8_manyOf_37 hl0 hd _ hr4 _ _ _ _ _ _ _ h)
theorem tbb_X8_manyOf_4 {l : Launch} {g : ab_G} (hl0 : l.stackTraces = false) {d2 : Nat} (hd : 2 ≤ d2 + 1)   : ∀ (n : Nat) (l0 : Nat) (l1 : Int32) (l2 : Int32) (l3 : Int32) (m0 : ab_Mm) (z : (Int32 × ab_Mm)), bb_X8_manyOf_4  n l0 l1 l2 l3 m0 = some z → ab_W l g cX8_manyOf RX8 4 (some .int) [] false (d2 + 1) (.inl (some (.int z.1))) z.2 4 [(0, .ref l0), (1, .int l1), (2, .int l2), (3, .int l3)] [] m0 := by
  intro n
  induction n with
  | zero => intro l0 l1 l2 l3 m0 z h; cases h
  | succ n ih =>
    intro l0 l1 l2 l3 m0 z h
    rw [bb_X8_manyOf_4] at h
    refine ru_iload_n (i := 3) dX8_manyOf_4 rfl rfl <| ru_bipush dX8_manyOf_5 kc_b_12 <| ?_
    refine ru_icmp_ge (tgt := 45) dX8_manyOf_7 (by decide) (fun hc => ?_) (fun hc => ?_)
    · rw [if_pos hc] at h
      refine ru_iload_n (i := 2) dX8_manyOf_45 rfl rfl <| ?_
      cases h
      exact ru_ret (v := some (.int _)) ⟨_, rfl, rfl, dX8_manyOf_46⟩
    · rw [if_neg hc] at h
      refine ru_iload_n (i := 2) dX8_manyOf_10 rfl rfl <| ru_aload_n (i := 0) dX8_manyOf_11 rfl rfl <| ru_iload_n (i := 3) dX8_manyOf_12 rfl rfl <| ?_
      obtain ⟨_, hrc, h⟩ := Option.bind_eq_some_iff.mp h
      obtain ⟨q1, hq1, h⟩ := Option.bind_eq_some_iff.mp h
      refine ru_callV (tm_X8_runs hl0 (by omega) hq1) dX8_manyOf_13 rfl pm_X8_75 mf_X8_runs (ab_rcv_of hrc rfl) rfl rfl (Nat.le_of_ble_eq_true rfl) ?_
      refine ru_if_eq (tgt := 36) dX8_manyOf_16 (by decide) (fun hc => ?_) (fun hc => ?_)
      · rw [if_pos hc] at h
        exact ru_pick [0, 1, 3] rfl (tbb_X8_manyOf_36 hl0 hd _ ih _ _ _ _ _ _ h)
      · rw [if_neg hc] at h
        refine ru_aload_n (i := 0) dX8_manyOf_19 rfl rfl <| ?_
        refine ru_getR h dX8_manyOf_20 lk_X8_23 ?_
        intro v2 h
        refine ru_iload_n (i := 3) dX8_manyOf_23 rfl rfl <| ru_iconst dX8_manyOf_24 kc_i_1 <| ?_
        obtain ⟨_, hrc, h⟩ := Option.bind_eq_some_iff.mp h
        obtain ⟨q3, hq3, h⟩ := Option.bind_eq_some_iff.mp h
        refine ru_callV (tm_X10_get hl0 (by omega) hq3) dX8_manyOf_25 rfl pm_X8_79 mf_X10_get (ab_rcv_of hrc rfl) rfl rfl (Nat.le_of_ble_eq_true rfl) ?_
        refine ru_iload_n (i := 1) dX8_manyOf_28 rfl rfl <| ?_
        refine ru_icmp_ne (tgt := 36) dX8_manyOf_29 (by decide) (fun hc => ?_) (fun hc => ?_)
        · rw [if_neg hc] at h
          exact ru_pick [0, 1, 3] rfl (tbb_X8_manyOf_36 hl0 hd _ ih _ _ _ _ _ _ h)
        · rw [if_pos hc] at h
          refine ru_iconst dX8_manyOf_32 kc_i_1 <| ru_goto (tgt := 37) dX8_manyOf_33 (by decide) <| ?_
          exact ru_pick [0, 1, 3] rfl (tbb_X8_manyOf_37 hl0 hd _ ih _ _ _ _ _ _ _ h)
theorem te_X8_manyOf {l : Launch} {g : ab_G} (hl0 : l.stackTraces = false) {d2 : Nat} (hd : 2 ≤ d2 + 1)   (l0 : Nat) (l1 : Int32) (m0 : ab_Mm) (z : (Int32 × ab_Mm)) (h : dd_X8_manyOf  l0 l1 m0 = some z) : ab_W l g cX8_manyOf RX8 4 (some .int) [] false (d2 + 1) (.inl (some (.int z.1))) z.2 0 [(0, .ref l0), (1, .int l1)] [] m0 := by
  unfold dd_X8_manyOf at h
  refine ru_iconst dX8_manyOf_0 kc_i_0 <| ru_istore_n (i := 2) dX8_manyOf_1 rfl (by decide) <| ru_iconst dX8_manyOf_2 kc_i_0 <| ru_istore_n (i := 3) dX8_manyOf_3 rfl (by decide) <| ?_
  exact ru_pick [0, 1, 2, 3] rfl (tbb_X8_manyOf_4 hl0 hd   _ _ _ _ _ _ _ h)
theorem tm_X8_manyOf {l : Launch} {g : ab_G} (hl0 : l.stackTraces = false) {d : Nat} (hd : 2 ≤ d) {l0 : Nat} {l1 : Int32} {m : ab_Mm} {z : (Int32 × ab_Mm)} (h : dd_X8_manyOf l0 l1 m = some z) : ab_Met l g yX8_manyOf cX8_manyOf 4 (some .int) [] d [.ref l0, .int l1] m (.inl (some (.int z.1))) z.2 := by
  obtain ⟨d2, rfl⟩ : ∃ d2, d = d2 + 1 := ⟨d - 1, by omega⟩
  exact ab_of hl0 (by decide +kernel) (Nat.le_of_ble_eq_true rfl) (fun q => by cases q) rfl (te_X8_manyOf hl0 hd _ _ _ _ h)
theorem tbb_X8_hostsInUse_28 {l : Launch} {g : ab_G} (hl0 : l.stackTraces = false) {d2 : Nat} (hd : 2 ≤ d2 + 1) (r4 : Nat → Int32 → Int32 → ab_Mm → Option (Int32 × ab_Mm)) (hr4 : ∀ (l0 : Nat) (l1 : Int32) (l2 : Int32) (m : ab_Mm) (z : (Int32 × ab_Mm)), r4 l0 l1 l2 m = some z → ab_W l g cX8_hostsInUse RX8 3 (some .int) [] false (d2 + 1) (.inl (some (.int z.1))) z.2 4 [(0, .ref l0), (1, .int l1), (2, .int l2)] [] m) (l0 : Nat) (l2 : Int32) (s0 : Int32) (s1 : Int32) (m0 : ab_Mm) (z : (Int32 × ab_Mm)) (h : bb_X8_hostsInUse_28 r4 l0 l2 s0 s1 m0 = some z) : ab_W l g cX8_hostsInUse RX8 3 (some .int) [] false (d2 + 1) (.inl (some (.int z.1))) z.2 28 [(0, .ref l0), (2, .int l2)] [.int s1, .int s0] m0 := by
  unfold bb_X8_hostsInUse_28 at h
  refine ru_iadd dX8_hostsInUse_28 <| ru_istore_n (i := 1) dX8_hostsInUse_29 rfl (by decide) <| ru_iinc dX8_hostsInUse_30 (by decide) rfl (ab_inc kc_i_1) <| ru_goto (tgt := 4) dX8_hostsInUse_33 (by decide) <| ?_
  exact ru_pick [0, 1, 2] rfl (hr4 _ _ _ _ _ h)
theorem tbb_X8_hostsInUse_4 {l : Launch} {g : ab_G} (hl0 : l.stackTraces = false) {d2 : Nat} (hd : 2 ≤ d2 + 1)   : ∀ (n : Nat) (l0 : Nat) (l1 : Int32) (l2 : Int32) (m0 : ab_Mm) (z : (Int32 × ab_Mm)), bb_X8_hostsInUse_4  n l0 l1 l2 m0 = some z → ab_W l g cX8_hostsInUse RX8 3 (some .int) [] false (d2 + 1) (.inl (some (.int z.1))) z.2 4 [(0, .ref l0), (1, .int l1), (2, .int l2)] [] m0 := by
  intro n
  induction n with
  | zero => intro l0 l1 l2 m0 z h; cases h
  | succ n ih =>
    intro l0 l1 l2 m0 z h
    rw [bb_X8_hostsInUse_4] at h
    refine ru_iload_n (i := 2) dX8_hostsInUse_4 rfl rfl <| ru_bipush dX8_hostsInUse_5 kc_b_8 <| ?_
    refine ru_icmp_ge (tgt := 36) dX8_hostsInUse_7 (by decide) (fun hc => ?_) (fun hc => ?_)
    · rw [if_pos hc] at h
      refine ru_iload_n (i := 1) dX8_hostsInUse_36 rfl rfl <| ?_
      cases h
      exact ru_ret (v := some (.int _)) ⟨_, rfl, rfl, dX8_hostsInUse_37⟩
    · rw [if_neg hc] at h
      refine ru_iload_n (i := 1) dX8_hostsInUse_10 rfl rfl <| ru_aload_n (i := 0) dX8_hostsInUse_11 rfl rfl <| ?_
      refine ru_getR h dX8_hostsInUse_12 lk_X8_33 ?_
      intro v1 h
      refine ru_iload_n (i := 2) dX8_hostsInUse_15 rfl rfl <| ru_iconst dX8_hostsInUse_16 kc_i_0 <| ?_
      obtain ⟨_, hrc, h⟩ := Option.bind_eq_some_iff.mp h
      obtain ⟨q2, hq2, h⟩ := Option.bind_eq_some_iff.mp h
      refine ru_callV (tm_X10_get hl0 (by omega) hq2) dX8_hostsInUse_17 rfl pm_X8_79 mf_X10_get (ab_rcv_of hrc rfl) rfl rfl (Nat.le_of_ble_eq_true rfl) ?_
      refine ru_if_le (tgt := 27) dX8_hostsInUse_20 (by decide) (fun hc => ?_) (fun hc => ?_)
      · rw [if_pos hc] at h
        refine ru_iconst dX8_hostsInUse_27 kc_i_0 <| ?_
        exact ru_pick [0, 2] rfl (tbb_X8_hostsInUse_28 hl0 hd _ ih _ _ _ _ _ _ h)
      · rw [if_neg hc] at h
        refine ru_iconst dX8_hostsInUse_23 kc_i_1 <| ru_goto (tgt := 28) dX8_hostsInUse_24 (by decide) <| ?_
        exact ru_pick [0, 2] rfl (tbb_X8_hostsInUse_28 hl0 hd _ ih _ _ _ _ _ _ h)
theorem te_X8_hostsInUse {l : Launch} {g : ab_G} (hl0 : l.stackTraces = false) {d2 : Nat} (hd : 2 ≤ d2 + 1)   (l0 : Nat) (m0 : ab_Mm) (z : (Int32 × ab_Mm)) (h : dd_X8_hostsInUse  l0 m0 = some z) : ab_W l g cX8_hostsInUse RX8 3 (some .int) [] false (d2 + 1) (.inl (some (.int z.1))) z.2 0 [(0, .ref l0)] [] m0 := by
  unfold dd_X8_hostsInUse at h
  refine ru_iconst dX8_hostsInUse_0 kc_i_0 <| ru_istore_n (i := 1) dX8_hostsInUse_1 rfl (by decide) <| ru_iconst dX8_hostsInUse_2 kc_i_0 <| ru_istore_n (i := 2) dX8_hostsInUse_3 rfl (by decide) <| ?_
  exact ru_pick [0, 1, 2] rfl (tbb_X8_hostsInUse_4 hl0 hd   _ _ _ _ _ _ h)
theorem tm_X8_hostsInUse {l : Launch} {g : ab_G} (hl0 : l.stackTraces = false) {d : Nat} (hd : 2 ≤ d) {l0 : Nat} {m : ab_Mm} {z : (Int32 × ab_Mm)} (h : dd_X8_hostsInUse l0 m = some z) : ab_Met l g yX8_hostsInUse cX8_hostsInUse 3 (some .int) [] d [.ref l0] m (.inl (some (.int z.1))) z.2 := by
  obtain ⟨d2, rfl⟩ : ∃ d2, d = d2 + 1 := ⟨d - 1, by omega⟩
  exact ab_of hl0 (by decide +kernel) (Nat.le_of_ble_eq_true rfl) (fun q => by cases q) rfl (te_X8_hostsInUse hl0 hd _ _ _ h)
theorem tbb_X8_setPrices_34 {l : Launch} {g : ab_G} (hl0 : l.stackTraces = false) {d2 : Nat} (hd : 3 ≤ d2 + 1)   : ∀ (n : Nat) (l0 : Nat) (l1 : Nat) (l3 : Int32) (l4 : Int32) (m0 : ab_Mm) (z : (Unit × ab_Mm)), bb_X8_setPrices_34  n l0 l1 l3 l4 m0 = some z → ab_W l g cX8_setPrices RX8 5 none [] false (d2 + 1) (.inl none) z.2 34 [(0, .ref l0), (1, .ref l1), (3, .int l3), (4, .int l4)] [] m0 := by
  intro n
  induction n with
  | zero => intro l0 l1 l3 l4 m0 z h; cases h
  | succ n ih =>
    intro l0 l1 l3 l4 m0 z h
    rw [bb_X8_setPrices_34] at h
    refine ru_iload dX8_setPrices_34 rfl <| ru_aload_n (i := 1) dX8_setPrices_36 rfl rfl <| ?_
    refine ru_getR h dX8_setPrices_37 lk_X8_96 ?_
    intro v1 h
    refine ru_getI h dX8_setPrices_40 lk_X8_103 ?_
    intro v2 h
    refine ru_icmp_ge (tgt := 69) dX8_setPrices_43 (by decide) (fun hc => ?_) (fun hc => ?_)
    · rw [if_pos hc] at h
      cases h
      exact ru_ret (v := none) ⟨rfl, dX8_setPrices_69⟩
    · rw [if_neg hc] at h
      refine ru_aload_n (i := 0) dX8_setPrices_46 rfl rfl <| ?_
      refine ru_getR h dX8_setPrices_47 lk_X8_30 ?_
      intro v3 h
      refine ru_iload dX8_setPrices_50 rfl <| ru_iconst dX8_setPrices_52 kc_i_0 <| ru_aload_n (i := 1) dX8_setPrices_53 rfl rfl <| ru_iload dX8_setPrices_54 rfl <| ru_iload_n (i := 3) dX8_setPrices_56 rfl rfl <| ?_
      obtain ⟨_, hrc, h⟩ := Option.bind_eq_some_iff.mp h
      obtain ⟨q4, hq4, h⟩ := Option.bind_eq_some_iff.mp h
      refine ru_callV (tm_X1_priceAt hl0 (by omega) hq4) dX8_setPrices_57 rfl pm_X8_168 mf_X1_priceAt (ab_rcv_of hrc rfl) rfl rfl (Nat.le_of_ble_eq_true rfl) ?_
      obtain ⟨_, hrc, h⟩ := Option.bind_eq_some_iff.mp h
      obtain ⟨q5, hq5, h⟩ := Option.bind_eq_some_iff.mp h
      refine ru_callV (tm_X10_set hl0 (by omega) hq5) dX8_setPrices_60 rfl pm_X8_127 mf_X10_set (ab_rcv_of hrc rfl) rfl rfl (Nat.le_of_ble_eq_true rfl) ?_
      refine ru_iinc dX8_setPrices_63 (by decide) rfl (ab_inc kc_i_1) <| ru_goto (tgt := 34) dX8_setPrices_66 (by decide) <| ?_
      exact ru_pick [0, 1, 3, 4] rfl (ih _ _ _ _ _ _ h)
theorem tbb_X8_setPrices_30 {l : Launch} {g : ab_G} (hl0 : l.stackTraces = false) {d2 : Nat} (hd : 3 ≤ d2 + 1)   (l0 : Nat) (l1 : Nat) (s0 : Int32) (m0 : ab_Mm) (z : (Unit × ab_Mm)) (h : bb_X8_setPrices_30  l0 l1 s0 m0 = some z) : ab_W l g cX8_setPrices RX8 5 none [] false (d2 + 1) (.inl none) z.2 30 [(0, .ref l0), (1, .ref l1)] [.int s0] m0 := by
  unfold bb_X8_setPrices_30 at h
  refine ru_istore_n (i := 3) dX8_setPrices_30 rfl (by decide) <| ru_iconst dX8_setPrices_31 kc_i_0 <| ru_istore dX8_setPrices_32 (by decide) <| ?_
  exact ru_pick [0, 1, 3, 4] rfl (tbb_X8_setPrices_34 hl0 hd   _ _ _ _ _ _ _ h)
theorem te_X8_setPrices {l : Launch} {g : ab_G} (hl0 : l.stackTraces = false) {d2 : Nat} (hd : 3 ≤ d2 + 1)   (l0 : Nat) (l1 : Nat) (m0 : ab_Mm) (z : (Unit × ab_Mm)) (h : dd_X8_setPrices  l0 l1 m0 = some z) : ab_W l g cX8_setPrices RX8 5 none [] false (d2 + 1) (.inl none) z.2 0 [(0, .ref l0), (1, .ref l1)] [] m0 := by
  unfold dd_X8_setPrices at h
  refine ru_aload_n (i := 1) dX8_setPrices_0 rfl rfl <| ?_
  refine ru_getR h dX8_setPrices_1 lk_X8_93 ?_
  intro v1 h
  refine ru_iconst dX8_setPrices_4 kc_i_0 <| ?_
  obtain ⟨_, hrc, h⟩ := Option.bind_eq_some_iff.mp h
  obtain ⟨q2, hq2, h⟩ := Option.bind_eq_some_iff.mp h
  refine ru_callV (tm_X10_total hl0 (by omega) hq2) dX8_setPrices_5 rfl pm_X8_165 mf_X10_total (ab_rcv_of hrc rfl) rfl rfl (Nat.le_of_ble_eq_true rfl) ?_
  refine ru_istore_n (i := 2) dX8_setPrices_8 rfl (by decide) <| ru_iload_n (i := 2) dX8_setPrices_9 rfl rfl <| ?_
  refine ru_if_le (tgt := 29) dX8_setPrices_10 (by decide) (fun hc => ?_) (fun hc => ?_)
  · rw [if_pos hc] at h
    refine ru_iconst dX8_setPrices_29 kc_i_0 <| ?_
    exact ru_pick [0, 1] rfl (tbb_X8_setPrices_30 hl0 hd   _ _ _ _ _ h)
  · rw [if_neg hc] at h
    refine ru_bipush dX8_setPrices_13 kc_b_100 <| ru_aload_n (i := 0) dX8_setPrices_15 rfl rfl <| ?_
    refine ru_getR h dX8_setPrices_16 lk_X8_33 ?_
    intro v3 h
    refine ru_iconst dX8_setPrices_19 kc_i_0 <| ?_
    obtain ⟨_, hrc, h⟩ := Option.bind_eq_some_iff.mp h
    obtain ⟨q4, hq4, h⟩ := Option.bind_eq_some_iff.mp h
    refine ru_callV (tm_X10_total hl0 (by omega) hq4) dX8_setPrices_20 rfl pm_X8_165 mf_X10_total (ab_rcv_of hrc rfl) rfl rfl (Nat.le_of_ble_eq_true rfl) ?_
    refine ru_imul dX8_setPrices_23 <| ru_iload_n (i := 2) dX8_setPrices_24 rfl rfl <| ?_
    rcases ab_iff h with ⟨hc, h⟩ | ⟨hc, h⟩
    · cases h
    refine ru_idiv dX8_setPrices_25 hc ?_
    refine ru_goto (tgt := 30) dX8_setPrices_26 (by decide) <| ?_
    exact ru_pick [0, 1] rfl (tbb_X8_setPrices_30 hl0 hd   _ _ _ _ _ h)
theorem tm_X8_setPrices {l : Launch} {g : ab_G} (hl0 : l.stackTraces = false) {d : Nat} (hd : 3 ≤ d) {l0 : Nat} {l1 : Nat} {m : ab_Mm} {z : (Unit × ab_Mm)} (h : dd_X8_setPrices l0 l1 m = some z) : ab_Met l g yX8_setPrices cX8_setPrices 5 none [] d [.ref l0, .ref l1] m (.inl none) z.2 := by
  obtain ⟨d2, rfl⟩ : ∃ d2, d = d2 + 1 := ⟨d - 1, by omega⟩
  exact ab_of hl0 (by decide +kernel) (Nat.le_of_ble_eq_true rfl) (fun q => by cases q) rfl (te_X8_setPrices hl0 hd _ _ _ _ h)
theorem te_X8_reset {l : Launch} {g : ab_G} (hl0 : l.stackTraces = false) {d2 : Nat} (hd : 4 ≤ d2 + 1)   (l0 : Nat) (l1 : Nat) (m0 : ab_Mm) (z : (Unit × ab_Mm)) (h : dd_X8_reset  l0 l1 m0 = some z) : ab_W l g cX8_reset RX8 2 none [] false (d2 + 1) (.inl none) z.2 0 [(0, .ref l0), (1, .ref l1)] [] m0 := by
  unfold dd_X8_reset at h
  refine ru_aload_n (i := 0) dX8_reset_0 rfl rfl <| ru_iconst dX8_reset_1 kc_i_0 <| ?_
  refine ru_putI h dX8_reset_2 lk_X8_9 ?_
  intro m1 h
  refine ru_aload_n (i := 0) dX8_reset_5 rfl rfl <| ru_iconst dX8_reset_6 kc_i_0 <| ?_
  refine ru_putI h dX8_reset_7 lk_X8_15 ?_
  intro m2 h
  refine ru_aload_n (i := 0) dX8_reset_10 rfl rfl <| ?_
  refine ru_getR h dX8_reset_11 lk_X8_23 ?_
  intro v3 h
  obtain ⟨_, hrc, h⟩ := Option.bind_eq_some_iff.mp h
  obtain ⟨q4, hq4, h⟩ := Option.bind_eq_some_iff.mp h
  refine ru_callV (tm_X10_clear hl0 (by omega) hq4) dX8_reset_14 rfl pm_X8_40 mf_X10_clear (ab_rcv_of hrc rfl) rfl rfl (Nat.le_of_ble_eq_true rfl) ?_
  refine ru_aload_n (i := 0) dX8_reset_17 rfl rfl <| ?_
  refine ru_getR h dX8_reset_18 lk_X8_27 ?_
  intro v5 h
  obtain ⟨_, hrc, h⟩ := Option.bind_eq_some_iff.mp h
  obtain ⟨q6, hq6, h⟩ := Option.bind_eq_some_iff.mp h
  refine ru_callV (tm_X10_clear hl0 (by omega) hq6) dX8_reset_21 rfl pm_X8_40 mf_X10_clear (ab_rcv_of hrc rfl) rfl rfl (Nat.le_of_ble_eq_true rfl) ?_
  refine ru_aload_n (i := 0) dX8_reset_24 rfl rfl <| ?_
  refine ru_getR h dX8_reset_25 lk_X8_33 ?_
  intro v7 h
  obtain ⟨_, hrc, h⟩ := Option.bind_eq_some_iff.mp h
  obtain ⟨q8, hq8, h⟩ := Option.bind_eq_some_iff.mp h
  refine ru_callV (tm_X10_clear hl0 (by omega) hq8) dX8_reset_28 rfl pm_X8_40 mf_X10_clear (ab_rcv_of hrc rfl) rfl rfl (Nat.le_of_ble_eq_true rfl) ?_
  refine ru_aload_n (i := 0) dX8_reset_31 rfl rfl <| ?_
  refine ru_getR h dX8_reset_32 lk_X8_36 ?_
  intro v9 h
  refine ru_lconst dX8_reset_35 (v := 0) rfl <| ?_
  obtain ⟨q10, hq10, h⟩ := Option.bind_eq_some_iff.mp h
  refine ru_callS (tm_J7_fill_d0a16 hl0 (by omega) hq10) dX8_reset_36 rfl pm_X8_43 mf_J7_fill_d0a16 rfl rfl (Nat.le_of_ble_eq_true rfl) ?_
  refine ru_aload_n (i := 0) dX8_reset_39 rfl rfl <| ru_aload_n (i := 1) dX8_reset_40 rfl rfl <| ?_
  obtain ⟨_, hrc, h⟩ := Option.bind_eq_some_iff.mp h
  obtain ⟨q11, hq11, h⟩ := Option.bind_eq_some_iff.mp h
  refine ru_callV (tm_X8_setPrices hl0 (by omega) hq11) dX8_reset_41 rfl pm_X8_49 mf_X8_setPrices (ab_rcv_of hrc rfl) rfl rfl (Nat.le_of_ble_eq_true rfl) ?_
  cases h
  exact ru_ret (v := none) ⟨rfl, dX8_reset_44⟩
theorem tm_X8_reset {l : Launch} {g : ab_G} (hl0 : l.stackTraces = false) {d : Nat} (hd : 4 ≤ d) {l0 : Nat} {l1 : Nat} {m : ab_Mm} {z : (Unit × ab_Mm)} (h : dd_X8_reset l0 l1 m = some z) : ab_Met l g yX8_reset cX8_reset 2 none [] d [.ref l0, .ref l1] m (.inl none) z.2 := by
  obtain ⟨d2, rfl⟩ : ∃ d2, d = d2 + 1 := ⟨d - 1, by omega⟩
  exact ab_of hl0 (by decide +kernel) (Nat.le_of_ble_eq_true rfl) (fun q => by cases q) rfl (te_X8_reset hl0 hd _ _ _ _ h)
theorem tbb_X8_isFull_17 {l : Launch} {g : ab_G} (hl0 : l.stackTraces = false) {d2 : Nat} (hd : 2 ≤ d2 + 1)   (s0 : Int32) (m0 : ab_Mm) (z : (Int32 × ab_Mm)) (h : bb_X8_isFull_17  s0 m0 = some z) : ab_W l g cX8_isFull RX8 1 (some .boolean) [] false (d2 + 1) (.inl (some (.int z.1))) z.2 17 [] [.int s0] m0 := by
  unfold bb_X8_isFull_17 at h
  rcases ab_iff h with ⟨hc, h⟩ | ⟨hc, h⟩
  · cases h
  cases h
  exact ru_ret (v := some (.int _)) ⟨_, rfl, congrArg Value.int (Classical.not_not.mp hc), dX8_isFull_17⟩
theorem te_X8_isFull {l : Launch} {g : ab_G} (hl0 : l.stackTraces = false) {d2 : Nat} (hd : 2 ≤ d2 + 1)   (l0 : Nat) (m0 : ab_Mm) (z : (Int32 × ab_Mm)) (h : dd_X8_isFull  l0 m0 = some z) : ab_W l g cX8_isFull RX8 1 (some .boolean) [] false (d2 + 1) (.inl (some (.int z.1))) z.2 0 [(0, .ref l0)] [] m0 := by
  unfold dd_X8_isFull at h
  refine ru_aload_n (i := 0) dX8_isFull_0 rfl rfl <| ?_
  refine ru_getI h dX8_isFull_1 lk_X8_15 ?_
  intro v1 h
  obtain ⟨q2, hq2, h⟩ := Option.bind_eq_some_iff.mp h
  refine ru_callS (tm_J6_bitCount_0f7a4 hl0 (by omega) hq2) dX8_isFull_4 rfl pm_X8_69 mf_J6_bitCount_0f7a4 rfl rfl (Nat.le_of_ble_eq_true rfl) ?_
  refine ru_bipush dX8_isFull_7 kc_b_12 <| ?_
  refine ru_icmp_lt (tgt := 16) dX8_isFull_9 (by decide) (fun hc => ?_) (fun hc => ?_)
  · rw [if_pos hc] at h
    refine ru_iconst dX8_isFull_16 kc_i_0 <| ?_
    exact ru_pick [] rfl (tbb_X8_isFull_17 hl0 hd   _ _ _ h)
  · rw [if_neg hc] at h
    refine ru_iconst dX8_isFull_12 kc_i_1 <| ru_goto (tgt := 17) dX8_isFull_13 (by decide) <| ?_
    exact ru_pick [] rfl (tbb_X8_isFull_17 hl0 hd   _ _ _ h)
theorem tm_X8_isFull {l : Launch} {g : ab_G} (hl0 : l.stackTraces = false) {d : Nat} (hd : 2 ≤ d) {l0 : Nat} {m : ab_Mm} {z : (Int32 × ab_Mm)} (h : dd_X8_isFull l0 m = some z) : ab_Met l g yX8_isFull cX8_isFull 1 (some .boolean) [] d [.ref l0] m (.inl (some (.int z.1))) z.2 := by
  obtain ⟨d2, rfl⟩ : ∃ d2, d = d2 + 1 := ⟨d - 1, by omega⟩
  exact ab_of hl0 (by decide +kernel) (Nat.le_of_ble_eq_true rfl) (fun q => by cases q) rfl (te_X8_isFull hl0 hd _ _ _ h)
theorem tbb_X8_setOn_37 {l : Launch} {g : ab_G} (hl0 : l.stackTraces = false) {d2 : Nat} (hd : 2 ≤ d2 + 1) (r4 : Nat → Int32 → Int32 → Int32 → ab_Mm → Option (Int32 × ab_Mm)) (hr4 : ∀ (l0 : Nat) (l1 : Int32) (l2 : Int32) (l3 : Int32) (m : ab_Mm) (z : (Int32 × ab_Mm)), r4 l0 l1 l2 l3 m = some z → ab_W l g cX8_setOn RX8 4 (some .int) [] false (d2 + 1) (.inl (some (.int z.1))) z.2 4 [(0, .ref l0), (1, .int l1), (2, .int l2), (3, .int l3)] [] m) (l0 : Nat) (l1 : Int32) (l2 : Int32) (l3 : Int32) (m0 : ab_Mm) (z : (Int32 × ab_Mm)) (h : bb_X8_setOn_37 r4 l0 l1 l2 l3 m0 = some z) : ab_W l g cX8_setOn RX8 4 (some .int) [] false (d2 + 1) (.inl (some (.int z.1))) z.2 37 [(0, .ref l0), (1, .int l1), (2, .int l2), (3, .int l3)] [] m0 := by
  unfold bb_X8_setOn_37 at h
  refine ru_iinc dX8_setOn_37 (by decide) rfl (ab_inc kc_i_1) <| ru_goto (tgt := 4) dX8_setOn_40 (by decide) <| ?_
  exact ru_pick [0, 1, 2, 3] rfl (hr4 _ _ _ _ _ _ h)
theorem tbb_X8_setOn_4 {l : Launch} {g : ab_G} (hl0 : l.stackTraces = false) {d2 : Nat} (hd : 2 ≤ d2 + 1)   : ∀ (n : Nat) (l0 : Nat) (l1 : Int32) (l2 : Int32) (l3 : Int32) (m0 : ab_Mm) (z : (Int32 × ab_Mm)), bb_X8_setOn_4  n l0 l1 l2 l3 m0 = some z → ab_W l g cX8_setOn RX8 4 (some .int) [] false (d2 + 1) (.inl (some (.int z.1))) z.2 4 [(0, .ref l0), (1, .int l1), (2, .int l2), (3, .int l3)] [] m0 := by
  intro n
  induction n with
  | zero => intro l0 l1 l2 l3 m0 z h; cases h
  | succ n ih =>
    intro l0 l1 l2 l3 m0 z h
    rw [bb_X8_setOn_4] at h
    refine ru_iload_n (i := 3) dX8_setOn_4 rfl rfl <| ru_bipush dX8_setOn_5 kc_b_12 <| ?_
    refine ru_icmp_ge (tgt := 43) dX8_setOn_7 (by decide) (fun hc => ?_) (fun hc => ?_)
    · rw [if_pos hc] at h
      refine ru_iload_n (i := 2) dX8_setOn_43 rfl rfl <| ?_
      cases h
      exact ru_ret (v := some (.int _)) ⟨_, rfl, rfl, dX8_setOn_44⟩
    · rw [if_neg hc] at h
      refine ru_aload_n (i := 0) dX8_setOn_10 rfl rfl <| ru_iload_n (i := 3) dX8_setOn_11 rfl rfl <| ?_
      obtain ⟨_, hrc, h⟩ := Option.bind_eq_some_iff.mp h
      obtain ⟨q1, hq1, h⟩ := Option.bind_eq_some_iff.mp h
      refine ru_callV (tm_X8_runs hl0 (by omega) hq1) dX8_setOn_12 rfl pm_X8_75 mf_X8_runs (ab_rcv_of hrc rfl) rfl rfl (Nat.le_of_ble_eq_true rfl) ?_
      refine ru_if_eq (tgt := 37) dX8_setOn_15 (by decide) (fun hc => ?_) (fun hc => ?_)
      · rw [if_pos hc] at h
        exact ru_pick [0, 1, 2, 3] rfl (tbb_X8_setOn_37 hl0 hd _ ih _ _ _ _ _ _ h)
      · rw [if_neg hc] at h
        refine ru_aload_n (i := 0) dX8_setOn_18 rfl rfl <| ?_
        refine ru_getR h dX8_setOn_19 lk_X8_23 ?_
        intro v2 h
        refine ru_iload_n (i := 3) dX8_setOn_22 rfl rfl <| ru_iconst dX8_setOn_23 kc_i_3 <| ?_
        obtain ⟨_, hrc, h⟩ := Option.bind_eq_some_iff.mp h
        obtain ⟨q3, hq3, h⟩ := Option.bind_eq_some_iff.mp h
        refine ru_callV (tm_X10_get hl0 (by omega) hq3) dX8_setOn_24 rfl pm_X8_79 mf_X10_get (ab_rcv_of hrc rfl) rfl rfl (Nat.le_of_ble_eq_true rfl) ?_
        refine ru_iload_n (i := 1) dX8_setOn_27 rfl rfl <| ?_
        refine ru_icmp_ne (tgt := 37) dX8_setOn_28 (by decide) (fun hc => ?_) (fun hc => ?_)
        · rw [if_neg hc] at h
          exact ru_pick [0, 1, 2, 3] rfl (tbb_X8_setOn_37 hl0 hd _ ih _ _ _ _ _ _ h)
        · rw [if_pos hc] at h
          refine ru_iload_n (i := 2) dX8_setOn_31 rfl rfl <| ru_iconst dX8_setOn_32 kc_i_1 <| ru_iload_n (i := 3) dX8_setOn_33 rfl rfl <| ru_ishl dX8_setOn_34 <| ru_ior dX8_setOn_35 <| ru_istore_n (i := 2) dX8_setOn_36 rfl (by decide) <| ?_
          exact ru_pick [0, 1, 2, 3] rfl (tbb_X8_setOn_37 hl0 hd _ ih _ _ _ _ _ _ h)
theorem te_X8_setOn {l : Launch} {g : ab_G} (hl0 : l.stackTraces = false) {d2 : Nat} (hd : 2 ≤ d2 + 1)   (l0 : Nat) (l1 : Int32) (m0 : ab_Mm) (z : (Int32 × ab_Mm)) (h : dd_X8_setOn  l0 l1 m0 = some z) : ab_W l g cX8_setOn RX8 4 (some .int) [] false (d2 + 1) (.inl (some (.int z.1))) z.2 0 [(0, .ref l0), (1, .int l1)] [] m0 := by
  unfold dd_X8_setOn at h
  refine ru_iconst dX8_setOn_0 kc_i_0 <| ru_istore_n (i := 2) dX8_setOn_1 rfl (by decide) <| ru_iconst dX8_setOn_2 kc_i_0 <| ru_istore_n (i := 3) dX8_setOn_3 rfl (by decide) <| ?_
  exact ru_pick [0, 1, 2, 3] rfl (tbb_X8_setOn_4 hl0 hd   _ _ _ _ _ _ _ h)
theorem tm_X8_setOn {l : Launch} {g : ab_G} (hl0 : l.stackTraces = false) {d : Nat} (hd : 2 ≤ d) {l0 : Nat} {l1 : Int32} {m : ab_Mm} {z : (Int32 × ab_Mm)} (h : dd_X8_setOn l0 l1 m = some z) : ab_Met l g yX8_setOn cX8_setOn 4 (some .int) [] d [.ref l0, .int l1] m (.inl (some (.int z.1))) z.2 := by
  obtain ⟨d2, rfl⟩ : ∃ d2, d = d2 + 1 := ⟨d - 1, by omega⟩
  exact ab_of hl0 (by decide +kernel) (Nat.le_of_ble_eq_true rfl) (fun q => by cases q) rfl (te_X8_setOn hl0 hd _ _ _ _ h)
theorem tbb_X8_regulars_78 {l : Launch} {g : ab_G} (hl0 : l.stackTraces = false) {d2 : Nat} (hd : 2 ≤ d2 + 1) (r5 : Nat → Int32 → Int32 → Int32 → Int32 → ab_Mm → Option (Int32 × ab_Mm)) (hr5 : ∀ (l0 : Nat) (l1 : Int32) (l2 : Int32) (l3 : Int32) (l4 : Int32) (m : ab_Mm) (z : (Int32 × ab_Mm)), r5 l0 l1 l2 l3 l4 m = some z → ab_W l g cX8_regulars RX8 6 (some .int) [] false (d2 + 1) (.inl (some (.int z.1))) z.2 5 [(0, .ref l0), (1, .int l1), (2, .int l2), (3, .int l3), (4, .int l4)] [] m) (l0 : Nat) (l1 : Int32) (l2 : Int32) (l3 : Int32) (l4 : Int32) (m0 : ab_Mm) (z : (Int32 × ab_Mm)) (h : bb_X8_regulars_78 r5 l0 l1 l2 l3 l4 m0 = some z) : ab_W l g cX8_regulars RX8 6 (some .int) [] false (d2 + 1) (.inl (some (.int z.1))) z.2 78 [(0, .ref l0), (1, .int l1), (2, .int l2), (3, .int l3), (4, .int l4)] [] m0 := by
  unfold bb_X8_regulars_78 at h
  refine ru_iinc dX8_regulars_78 (by decide) rfl (ab_inc kc_i_1) <| ru_goto (tgt := 5) dX8_regulars_81 (by decide) <| ?_
  exact ru_pick [0, 1, 2, 3, 4] rfl (hr5 _ _ _ _ _ _ _ h)
theorem tbb_X8_regulars_45 {l : Launch} {g : ab_G} (hl0 : l.stackTraces = false) {d2 : Nat} (hd : 2 ≤ d2 + 1) (r5 : Nat → Int32 → Int32 → Int32 → Int32 → ab_Mm → Option (Int32 × ab_Mm)) (hr5 : ∀ (l0 : Nat) (l1 : Int32) (l2 : Int32) (l3 : Int32) (l4 : Int32) (m : ab_Mm) (z : (Int32 × ab_Mm)), r5 l0 l1 l2 l3 l4 m = some z → ab_W l g cX8_regulars RX8 6 (some .int) [] false (d2 + 1) (.inl (some (.int z.1))) z.2 5 [(0, .ref l0), (1, .int l1), (2, .int l2), (3, .int l3), (4, .int l4)] [] m) (l0 : Nat) (l1 : Int32) (l2 : Int32) (l3 : Int32) (l4 : Int32) (s0 : Int32) (m0 : ab_Mm) (z : (Int32 × ab_Mm)) (h : bb_X8_regulars_45 r5 l0 l1 l2 l3 l4 s0 m0 = some z) : ab_W l g cX8_regulars RX8 6 (some .int) [] false (d2 + 1) (.inl (some (.int z.1))) z.2 45 [(0, .ref l0), (1, .int l1), (2, .int l2), (3, .int l3), (4, .int l4)] [.int s0] m0 := by
  unfold bb_X8_regulars_45 at h
  refine ru_istore dX8_regulars_45 (by decide) <| ru_aload_n (i := 0) dX8_regulars_47 rfl rfl <| ru_iload dX8_regulars_48 rfl <| ?_
  obtain ⟨_, hrc, h⟩ := Option.bind_eq_some_iff.mp h
  obtain ⟨q1, hq1, h⟩ := Option.bind_eq_some_iff.mp h
  refine ru_callV (tm_X8_runs hl0 (by omega) hq1) dX8_regulars_50 rfl pm_X8_75 mf_X8_runs (ab_rcv_of hrc rfl) rfl rfl (Nat.le_of_ble_eq_true rfl) ?_
  refine ru_if_eq (tgt := 78) dX8_regulars_53 (by decide) (fun hc => ?_) (fun hc => ?_)
  · rw [if_pos hc] at h
    exact ru_pick [0, 1, 2, 3, 4] rfl (tbb_X8_regulars_78 hl0 hd _ hr5 _ _ _ _ _ _ _ h)
  · rw [if_neg hc] at h
    refine ru_iload dX8_regulars_56 rfl <| ?_
    refine ru_if_eq (tgt := 78) dX8_regulars_58 (by decide) (fun hc => ?_) (fun hc => ?_)
    · rw [if_pos hc] at h
      exact ru_pick [0, 1, 2, 3, 4] rfl (tbb_X8_regulars_78 hl0 hd _ hr5 _ _ _ _ _ _ _ h)
    · rw [if_neg hc] at h
      refine ru_aload_n (i := 0) dX8_regulars_61 rfl rfl <| ?_
      refine ru_getR h dX8_regulars_62 lk_X8_23 ?_
      intro v2 h
      refine ru_iload dX8_regulars_65 rfl <| ru_iconst dX8_regulars_67 kc_i_2 <| ?_
      obtain ⟨_, hrc, h⟩ := Option.bind_eq_some_iff.mp h
      obtain ⟨q3, hq3, h⟩ := Option.bind_eq_some_iff.mp h
      refine ru_callV (tm_X10_get hl0 (by omega) hq3) dX8_regulars_68 rfl pm_X8_79 mf_X10_get (ab_rcv_of hrc rfl) rfl rfl (Nat.le_of_ble_eq_true rfl) ?_
      refine ru_iconst dX8_regulars_71 kc_i_m1 <| ?_
      refine ru_icmp_ne (tgt := 78) dX8_regulars_72 (by decide) (fun hc => ?_) (fun hc => ?_)
      · rw [if_neg hc] at h
        exact ru_pick [0, 1, 2, 3, 4] rfl (tbb_X8_regulars_78 hl0 hd _ hr5 _ _ _ _ _ _ _ h)
      · rw [if_pos hc] at h
        refine ru_iinc dX8_regulars_75 (by decide) rfl (ab_inc kc_i_1) <| ?_
        exact ru_pick [0, 1, 2, 3, 4] rfl (tbb_X8_regulars_78 hl0 hd _ hr5 _ _ _ _ _ _ _ h)
theorem tbb_X8_regulars_44 {l : Launch} {g : ab_G} (hl0 : l.stackTraces = false) {d2 : Nat} (hd : 2 ≤ d2 + 1) (r5 : Nat → Int32 → Int32 → Int32 → Int32 → ab_Mm → Option (Int32 × ab_Mm)) (hr5 : ∀ (l0 : Nat) (l1 : Int32) (l2 : Int32) (l3 : Int32) (l4 : Int32) (m : ab_Mm) (z : (Int32 × ab_Mm)), r5 l0 l1 l2 l3 l4 m = some z → ab_W l g cX8_regulars RX8 6 (some .int) [] false (d2 + 1) (.inl (some (.int z.1))) z.2 5 [(0, .ref l0), (1, .int l1), (2, .int l2), (3, .int l3), (4, .int l4)] [] m) (l0 : Nat) (l1 : Int32) (l2 : Int32) (l3 : Int32) (l4 : Int32) (m0 : ab_Mm) (z : (Int32 × ab_Mm)) (h : bb_X8_regulars_44 r5 l0 l1 l2 l3 l4 m0 = some z) : ab_W l g cX8_regulars RX8 6 (some .int) [] false (d2 + 1) (.inl (some (.int z.1))) z.2 44 [(0, .ref l0), (1, .int l1), (2, .int l2), (3, .int l3), (4, .int l4)] [] m0 := by
  unfold bb_X8_regulars_44 at h
  refine ru_iconst dX8_regulars_44 kc_i_0 <| ?_
  exact ru_pick [0, 1, 2, 3, 4] rfl (tbb_X8_regulars_45 hl0 hd _ hr5 _ _ _ _ _ _ _ _ h)
theorem tbb_X8_regulars_5 {l : Launch} {g : ab_G} (hl0 : l.stackTraces = false) {d2 : Nat} (hd : 2 ≤ d2 + 1)   : ∀ (n : Nat) (l0 : Nat) (l1 : Int32) (l2 : Int32) (l3 : Int32) (l4 : Int32) (m0 : ab_Mm) (z : (Int32 × ab_Mm)), bb_X8_regulars_5  n l0 l1 l2 l3 l4 m0 = some z → ab_W l g cX8_regulars RX8 6 (some .int) [] false (d2 + 1) (.inl (some (.int z.1))) z.2 5 [(0, .ref l0), (1, .int l1), (2, .int l2), (3, .int l3), (4, .int l4)] [] m0 := by
  intro n
  induction n with
  | zero => intro l0 l1 l2 l3 l4 m0 z h; cases h
  | succ n ih =>
    intro l0 l1 l2 l3 l4 m0 z h
    rw [bb_X8_regulars_5] at h
    refine ru_iload dX8_regulars_5 rfl <| ru_bipush dX8_regulars_7 kc_b_12 <| ?_
    refine ru_icmp_ge (tgt := 84) dX8_regulars_9 (by decide) (fun hc => ?_) (fun hc => ?_)
    · rw [if_pos hc] at h
      refine ru_iload_n (i := 3) dX8_regulars_84 rfl rfl <| ?_
      cases h
      exact ru_ret (v := some (.int _)) ⟨_, rfl, rfl, dX8_regulars_85⟩
    · rw [if_neg hc] at h
      refine ru_aload_n (i := 0) dX8_regulars_12 rfl rfl <| ?_
      refine ru_getR h dX8_regulars_13 lk_X8_23 ?_
      intro v1 h
      refine ru_iload dX8_regulars_16 rfl <| ru_iconst dX8_regulars_18 kc_i_0 <| ?_
      obtain ⟨_, hrc, h⟩ := Option.bind_eq_some_iff.mp h
      obtain ⟨q2, hq2, h⟩ := Option.bind_eq_some_iff.mp h
      refine ru_callV (tm_X10_get hl0 (by omega) hq2) dX8_regulars_19 rfl pm_X8_79 mf_X10_get (ab_rcv_of hrc rfl) rfl rfl (Nat.le_of_ble_eq_true rfl) ?_
      refine ru_iload_n (i := 1) dX8_regulars_22 rfl rfl <| ?_
      refine ru_icmp_ne (tgt := 44) dX8_regulars_23 (by decide) (fun hc => ?_) (fun hc => ?_)
      · rw [if_neg hc] at h
        exact ru_pick [0, 1, 2, 3, 4] rfl (tbb_X8_regulars_44 hl0 hd _ ih _ _ _ _ _ _ _ h)
      · rw [if_pos hc] at h
        refine ru_aload_n (i := 0) dX8_regulars_26 rfl rfl <| ?_
        refine ru_getR h dX8_regulars_27 lk_X8_23 ?_
        intro v3 h
        refine ru_iload dX8_regulars_30 rfl <| ru_iconst dX8_regulars_32 kc_i_1 <| ?_
        obtain ⟨_, hrc, h⟩ := Option.bind_eq_some_iff.mp h
        obtain ⟨q4, hq4, h⟩ := Option.bind_eq_some_iff.mp h
        refine ru_callV (tm_X10_get hl0 (by omega) hq4) dX8_regulars_33 rfl pm_X8_79 mf_X10_get (ab_rcv_of hrc rfl) rfl rfl (Nat.le_of_ble_eq_true rfl) ?_
        refine ru_iload_n (i := 2) dX8_regulars_36 rfl rfl <| ?_
        refine ru_icmp_ne (tgt := 44) dX8_regulars_37 (by decide) (fun hc => ?_) (fun hc => ?_)
        · rw [if_neg hc] at h
          exact ru_pick [0, 1, 2, 3, 4] rfl (tbb_X8_regulars_44 hl0 hd _ ih _ _ _ _ _ _ _ h)
        · rw [if_pos hc] at h
          refine ru_iconst dX8_regulars_40 kc_i_1 <| ru_goto (tgt := 45) dX8_regulars_41 (by decide) <| ?_
          exact ru_pick [0, 1, 2, 3, 4] rfl (tbb_X8_regulars_45 hl0 hd _ ih _ _ _ _ _ _ _ _ h)
theorem te_X8_regulars {l : Launch} {g : ab_G} (hl0 : l.stackTraces = false) {d2 : Nat} (hd : 2 ≤ d2 + 1)   (l0 : Nat) (l1 : Int32) (l2 : Int32) (m0 : ab_Mm) (z : (Int32 × ab_Mm)) (h : dd_X8_regulars  l0 l1 l2 m0 = some z) : ab_W l g cX8_regulars RX8 6 (some .int) [] false (d2 + 1) (.inl (some (.int z.1))) z.2 0 [(0, .ref l0), (1, .int l1), (2, .int l2)] [] m0 := by
  unfold dd_X8_regulars at h
  refine ru_iconst dX8_regulars_0 kc_i_0 <| ru_istore_n (i := 3) dX8_regulars_1 rfl (by decide) <| ru_iconst dX8_regulars_2 kc_i_0 <| ru_istore dX8_regulars_3 (by decide) <| ?_
  exact ru_pick [0, 1, 2, 3, 4] rfl (tbb_X8_regulars_5 hl0 hd   _ _ _ _ _ _ _ _ h)
theorem tm_X8_regulars {l : Launch} {g : ab_G} (hl0 : l.stackTraces = false) {d : Nat} (hd : 2 ≤ d) {l0 : Nat} {l1 : Int32} {l2 : Int32} {m : ab_Mm} {z : (Int32 × ab_Mm)} (h : dd_X8_regulars l0 l1 l2 m = some z) : ab_Met l g yX8_regulars cX8_regulars 6 (some .int) [] d [.ref l0, .int l1, .int l2] m (.inl (some (.int z.1))) z.2 := by
  obtain ⟨d2, rfl⟩ : ∃ d2, d = d2 + 1 := ⟨d - 1, by omega⟩
  exact ab_of hl0 (by decide +kernel) (Nat.le_of_ble_eq_true rfl) (fun q => by cases q) rfl (te_X8_regulars hl0 hd _ _ _ _ _ h)
theorem tbb_X8_spentBy_23 {l : Launch} {g : ab_G} (hl0 : l.stackTraces = false) {d2 : Nat} (hd : 1 ≤ d2 + 1)   (s0 : Int64) (m0 : ab_Mm) (z : (Int64 × ab_Mm)) (h : bb_X8_spentBy_23  s0 m0 = some z) : ab_W l g cX8_spentBy RX8 2 (some .long) [] false (d2 + 1) (.inl (some (.long z.1))) z.2 23 [] [.long s0] m0 := by
  unfold bb_X8_spentBy_23 at h
  cases h
  exact ru_ret (v := some (.long _)) ⟨rfl, dX8_spentBy_23⟩
theorem tbb_X8_spentBy_22 {l : Launch} {g : ab_G} (hl0 : l.stackTraces = false) {d2 : Nat} (hd : 1 ≤ d2 + 1)    (m0 : ab_Mm) (z : (Int64 × ab_Mm)) (h : bb_X8_spentBy_22   m0 = some z) : ab_W l g cX8_spentBy RX8 2 (some .long) [] false (d2 + 1) (.inl (some (.long z.1))) z.2 22 [] [] m0 := by
  unfold bb_X8_spentBy_22 at h
  refine ru_lconst dX8_spentBy_22 (v := 0) rfl <| ?_
  exact ru_pick [] rfl (tbb_X8_spentBy_23 hl0 hd   _ _ _ h)
theorem te_X8_spentBy {l : Launch} {g : ab_G} (hl0 : l.stackTraces = false) {d2 : Nat} (hd : 1 ≤ d2 + 1)   (l0 : Nat) (l1 : Int32) (m0 : ab_Mm) (z : (Int64 × ab_Mm)) (h : dd_X8_spentBy  l0 l1 m0 = some z) : ab_W l g cX8_spentBy RX8 2 (some .long) [] false (d2 + 1) (.inl (some (.long z.1))) z.2 0 [(0, .ref l0), (1, .int l1)] [] m0 := by
  unfold dd_X8_spentBy at h
  refine ru_iload_n (i := 1) dX8_spentBy_0 rfl rfl <| ?_
  refine ru_if_lt (tgt := 22) dX8_spentBy_1 (by decide) (fun hc => ?_) (fun hc => ?_)
  · rw [if_pos hc] at h
    exact ru_pick [] rfl (tbb_X8_spentBy_22 hl0 hd    _ _ h)
  · rw [if_neg hc] at h
    refine ru_iload_n (i := 1) dX8_spentBy_4 rfl rfl <| ru_aload_n (i := 0) dX8_spentBy_5 rfl rfl <| ?_
    refine ru_getR h dX8_spentBy_6 lk_X8_36 ?_
    intro v1 h
    refine ru_alen 3 h dX8_spentBy_9 ?_
    intro v2 h
    refine ru_icmp_ge (tgt := 22) dX8_spentBy_10 (by decide) (fun hc => ?_) (fun hc => ?_)
    · rw [if_pos hc] at h
      exact ru_pick [] rfl (tbb_X8_spentBy_22 hl0 hd    _ _ h)
    · rw [if_neg hc] at h
      refine ru_aload_n (i := 0) dX8_spentBy_13 rfl rfl <| ?_
      refine ru_getR h dX8_spentBy_14 lk_X8_36 ?_
      intro v3 h
      refine ru_iload_n (i := 1) dX8_spentBy_17 rfl rfl <| ?_
      refine ru_laload h dX8_spentBy_18 ?_
      intro v4 h
      refine ru_goto (tgt := 23) dX8_spentBy_19 (by decide) <| ?_
      exact ru_pick [] rfl (tbb_X8_spentBy_23 hl0 hd   _ _ _ h)
