/-! ===== the methods keep to these functions (by program) ===== -/
theorem te_X2_carryOut {l : Launch} {g : ab_G} (hl0 : l.stackTraces = false) {d2 : Nat} (hd : 6 ≤ d2 + 1)   (l0 : Nat) (l1 : Nat) (l2 : Nat) (m0 : ab_Mm) (z : (Unit × ab_Mm)) (h : dd_X2_carryOut  l0 l1 l2 m0 = some z) : ab_W l g cX2_carryOut RX2 4 none [] false (d2 + 1) (.inl none) z.2 0 [(0, .ref l0), (1, .ref l1), (2, .ref l2)] [] m0 := by
  unfold dd_X2_carryOut at h
  refine ru_iconst dX2_carryOut_0 kc_i_0 <| ru_istore_n (i := 3) dX2_carryOut_1 rfl (by decide) <| ?_
  exact ru_pick [0, 1, 2, 3] rfl (tbb_X2_carryOut_2 hl0 hd   _ _ _ _ _ _ _ h)
theorem tm_X2_carryOut {l : Launch} {g : ab_G} (hl0 : l.stackTraces = false) {d : Nat} (hd : 6 ≤ d) {l0 : Nat} {l1 : Nat} {l2 : Nat} {m : ab_Mm} {z : (Unit × ab_Mm)} (h : dd_X2_carryOut l0 l1 l2 m = some z) : ab_Met l g yX2_carryOut cX2_carryOut 4 none [] d [.ref l0, .ref l1, .ref l2] m (.inl none) z.2 := by
  obtain ⟨d2, rfl⟩ : ∃ d2, d = d2 + 1 := ⟨d - 1, by omega⟩
  exact ab_of hl0 (by decide +kernel) (Nat.le_of_ble_eq_true rfl) (fun q => by cases q) rfl (te_X2_carryOut hl0 hd _ _ _ _ _ h)
theorem te_X3_init {l : Launch} {g : ab_G} (hl0 : l.stackTraces = false) {d2 : Nat} (hd : 2 ≤ d2 + 1)   (l0 : Nat) (m0 : ab_Mm) (z : (Unit × ab_Mm)) (h : dd_X3_init  l0 m0 = some z) : ab_W l g cX3_init RX3 1 none [] true (d2 + 1) (.inl none) z.2 0 [(0, .ref l0)] [] m0 := by
  unfold dd_X3_init at h
  refine ru_aload_n (i := 0) dX3_init_0 rfl rfl <| ru_objInit dX3_init_1 ⟨pm_X3_3, po_inst, po_code⟩ (Nat.le_of_ble_eq_true rfl) <| ru_aload_n (i := 0) dX3_init_4 rfl rfl <| ?_
  refine ru_new h dX3_init_5 nw_X3_9 ?_
  intro q1 h
  refine ru_dup dX3_init_8 rfl <| ru_bipush dX3_init_9 kc_b_12 <| ru_iconst dX3_init_11 kc_i_4 <| ?_
  obtain ⟨q2, hq2, h⟩ := Option.bind_eq_some_iff.mp h
  refine ru_callI rfl (tm_X10_init hl0 (by omega) hq2) dX3_init_12 rfl (Or.inl pm_X3_11) mf_X10_init rfl rfl (Nat.le_of_ble_eq_true rfl) ?_
  refine ru_putR h dX3_init_15 lk_X3_14 (fun _ => ⟨rfl, rfl⟩) rfl (fun q hq => by cases hq; rfl) (fun q hq => by cases hq; exact pf_X3_14) ?_
  intro m3 h
  refine ru_aload_n (i := 0) dX3_init_18 rfl rfl <| ru_iconst dX3_init_19 kc_i_m1 <| ?_
  refine ru_putI h dX3_init_20 lk_X3_20 ?_
  intro m4 h
  refine ru_aload_n (i := 0) dX3_init_23 rfl rfl <| ru_iconst dX3_init_24 kc_i_0 <| ?_
  refine ru_putI h dX3_init_25 lk_X3_24 ?_
  intro m5 h
  cases h
  exact ru_ret (v := none) ⟨rfl, dX3_init_28⟩
theorem tm_X3_init {l : Launch} {g : ab_G} (hl0 : l.stackTraces = false) {d : Nat} (hd : 2 ≤ d) {l0 : Nat} {m : ab_Mm} {z : (Unit × ab_Mm)} (h : dd_X3_init l0 m = some z) : ab_Met l g yX3_init cX3_init 1 none [] d [.ref l0] m (.inl none) z.2 := by
  obtain ⟨d2, rfl⟩ : ∃ d2, d = d2 + 1 := ⟨d - 1, by omega⟩
  exact ab_of hl0 (by decide +kernel) (Nat.le_of_ble_eq_true rfl) (fun _ => rfl) rfl (te_X3_init hl0 hd _ _ _ h)
theorem te_X3_addSpot {l : Launch} {g : ab_G} (hl0 : l.stackTraces = false) {d2 : Nat} (hd : 3 ≤ d2 + 1)   (l0 : Nat) (l1 : Nat) (l2 : Nat) (l3 : Int32) (m0 : ab_Mm) (z : (Unit × ab_Mm)) (h : dd_X3_addSpot  l0 l1 l2 l3 m0 = some z) : ab_W l g cX3_addSpot RX3 6 none [] false (d2 + 1) (.inl none) z.2 0 [(0, .ref l0), (1, .ref l1), (2, .ref l2), (3, .int l3)] [] m0 := by
  unfold dd_X3_addSpot at h
  refine ru_aload_n (i := 2) dX3_addSpot_0 rfl rfl <| ?_
  refine ru_getR h dX3_addSpot_1 lk_X3_37 ?_
  intro v1 h
  refine ru_iload_n (i := 3) dX3_addSpot_4 rfl rfl <| ru_iconst dX3_addSpot_5 kc_i_1 <| ?_
  obtain ⟨_, hrc, h⟩ := Option.bind_eq_some_iff.mp h
  obtain ⟨q2, hq2, h⟩ := Option.bind_eq_some_iff.mp h
  refine ru_callV (tm_X10_get hl0 (by omega) hq2) dX3_addSpot_6 rfl pm_X3_40 mf_X10_get (ab_rcv_of hrc rfl) rfl rfl (Nat.le_of_ble_eq_true rfl) ?_
  refine ru_istore dX3_addSpot_9 (by decide) <| ru_aload_n (i := 0) dX3_addSpot_11 rfl rfl <| ?_
  refine ru_getR h dX3_addSpot_12 lk_X3_14 ?_
  intro v3 h
  refine ru_getI h dX3_addSpot_15 lk_X3_61 ?_
  intro v4 h
  refine ru_istore dX3_addSpot_18 (by decide) <| ru_aload_n (i := 0) dX3_addSpot_20 rfl rfl <| ?_
  refine ru_getR h dX3_addSpot_21 lk_X3_14 ?_
  intro v5 h
  refine ru_iload dX3_addSpot_24 rfl <| ?_
  obtain ⟨_, hrc, h⟩ := Option.bind_eq_some_iff.mp h
  obtain ⟨q6, hq6, h⟩ := Option.bind_eq_some_iff.mp h
  refine ru_callV (tm_X10_insertRow hl0 (by omega) hq6) dX3_addSpot_26 rfl pm_X3_64 mf_X10_insertRow (ab_rcv_of hrc rfl) rfl rfl (Nat.le_of_ble_eq_true rfl) ?_
  refine ru_aload_n (i := 0) dX3_addSpot_29 rfl rfl <| ?_
  refine ru_getR h dX3_addSpot_30 lk_X3_14 ?_
  intro v7 h
  refine ru_iload dX3_addSpot_33 rfl <| ru_iconst dX3_addSpot_35 kc_i_0 <| ru_aload_n (i := 1) dX3_addSpot_36 rfl rfl <| ?_
  refine ru_getR h dX3_addSpot_37 lk_X3_48 ?_
  intro v8 h
  refine ru_iload dX3_addSpot_40 rfl <| ru_iconst dX3_addSpot_42 kc_i_0 <| ?_
  obtain ⟨_, hrc, h⟩ := Option.bind_eq_some_iff.mp h
  obtain ⟨q9, hq9, h⟩ := Option.bind_eq_some_iff.mp h
  refine ru_callV (tm_X10_get hl0 (by omega) hq9) dX3_addSpot_43 rfl pm_X3_40 mf_X10_get (ab_rcv_of hrc rfl) rfl rfl (Nat.le_of_ble_eq_true rfl) ?_
  obtain ⟨_, hrc, h⟩ := Option.bind_eq_some_iff.mp h
  obtain ⟨q10, hq10, h⟩ := Option.bind_eq_some_iff.mp h
  refine ru_callV (tm_X10_set hl0 (by omega) hq10) dX3_addSpot_46 rfl pm_X3_68 mf_X10_set (ab_rcv_of hrc rfl) rfl rfl (Nat.le_of_ble_eq_true rfl) ?_
  refine ru_aload_n (i := 0) dX3_addSpot_49 rfl rfl <| ?_
  refine ru_getR h dX3_addSpot_50 lk_X3_14 ?_
  intro v11 h
  refine ru_iload dX3_addSpot_53 rfl <| ru_iconst dX3_addSpot_55 kc_i_1 <| ru_aload_n (i := 1) dX3_addSpot_56 rfl rfl <| ?_
  refine ru_getR h dX3_addSpot_57 lk_X3_48 ?_
  intro v12 h
  refine ru_iload dX3_addSpot_60 rfl <| ru_iconst dX3_addSpot_62 kc_i_1 <| ?_
  obtain ⟨_, hrc, h⟩ := Option.bind_eq_some_iff.mp h
  obtain ⟨q13, hq13, h⟩ := Option.bind_eq_some_iff.mp h
  refine ru_callV (tm_X10_get hl0 (by omega) hq13) dX3_addSpot_63 rfl pm_X3_40 mf_X10_get (ab_rcv_of hrc rfl) rfl rfl (Nat.le_of_ble_eq_true rfl) ?_
  obtain ⟨_, hrc, h⟩ := Option.bind_eq_some_iff.mp h
  obtain ⟨q14, hq14, h⟩ := Option.bind_eq_some_iff.mp h
  refine ru_callV (tm_X10_set hl0 (by omega) hq14) dX3_addSpot_66 rfl pm_X3_68 mf_X10_set (ab_rcv_of hrc rfl) rfl rfl (Nat.le_of_ble_eq_true rfl) ?_
  refine ru_aload_n (i := 0) dX3_addSpot_69 rfl rfl <| ?_
  refine ru_getR h dX3_addSpot_70 lk_X3_14 ?_
  intro v15 h
  refine ru_iload dX3_addSpot_73 rfl <| ru_iconst dX3_addSpot_75 kc_i_2 <| ru_aload_n (i := 2) dX3_addSpot_76 rfl rfl <| ?_
  refine ru_getR h dX3_addSpot_77 lk_X3_37 ?_
  intro v16 h
  refine ru_iload_n (i := 3) dX3_addSpot_80 rfl rfl <| ru_iconst dX3_addSpot_81 kc_i_2 <| ?_
  obtain ⟨_, hrc, h⟩ := Option.bind_eq_some_iff.mp h
  obtain ⟨q17, hq17, h⟩ := Option.bind_eq_some_iff.mp h
  refine ru_callV (tm_X10_get hl0 (by omega) hq17) dX3_addSpot_82 rfl pm_X3_40 mf_X10_get (ab_rcv_of hrc rfl) rfl rfl (Nat.le_of_ble_eq_true rfl) ?_
  obtain ⟨_, hrc, h⟩ := Option.bind_eq_some_iff.mp h
  obtain ⟨q18, hq18, h⟩ := Option.bind_eq_some_iff.mp h
  refine ru_callV (tm_X10_set hl0 (by omega) hq18) dX3_addSpot_85 rfl pm_X3_68 mf_X10_set (ab_rcv_of hrc rfl) rfl rfl (Nat.le_of_ble_eq_true rfl) ?_
  refine ru_aload_n (i := 0) dX3_addSpot_88 rfl rfl <| ?_
  refine ru_getR h dX3_addSpot_89 lk_X3_14 ?_
  intro v19 h
  refine ru_iload dX3_addSpot_92 rfl <| ru_iconst dX3_addSpot_94 kc_i_3 <| ru_iload_n (i := 3) dX3_addSpot_95 rfl rfl <| ?_
  obtain ⟨_, hrc, h⟩ := Option.bind_eq_some_iff.mp h
  obtain ⟨q20, hq20, h⟩ := Option.bind_eq_some_iff.mp h
  refine ru_callV (tm_X10_set hl0 (by omega) hq20) dX3_addSpot_96 rfl pm_X3_68 mf_X10_set (ab_rcv_of hrc rfl) rfl rfl (Nat.le_of_ble_eq_true rfl) ?_
  cases h
  exact ru_ret (v := none) ⟨rfl, dX3_addSpot_99⟩
theorem tm_X3_addSpot {l : Launch} {g : ab_G} (hl0 : l.stackTraces = false) {d : Nat} (hd : 3 ≤ d) {l0 : Nat} {l1 : Nat} {l2 : Nat} {l3 : Int32} {m : ab_Mm} {z : (Unit × ab_Mm)} (h : dd_X3_addSpot l0 l1 l2 l3 m = some z) : ab_Met l g yX3_addSpot cX3_addSpot 6 none [] d [.ref l0, .ref l1, .ref l2, .int l3] m (.inl none) z.2 := by
  obtain ⟨d2, rfl⟩ : ∃ d2, d = d2 + 1 := ⟨d - 1, by omega⟩
  exact ab_of hl0 (by decide +kernel) (Nat.le_of_ble_eq_true rfl) (fun q => by cases q) rfl (te_X3_addSpot hl0 hd _ _ _ _ _ _ h)
theorem tbb_X3_keep_55 {l : Launch} {g : ab_G} (hl0 : l.stackTraces = false) {d2 : Nat} (hd : 2 ≤ d2 + 1)    (m0 : ab_Mm) (z : (Unit × ab_Mm)) (h : bb_X3_keep_55   m0 = some z) : ab_W l g cX3_keep RX3 4 none [] false (d2 + 1) (.inl none) z.2 55 [] [] m0 := by
  unfold bb_X3_keep_55 at h
  cases h
  exact ru_ret (v := none) ⟨rfl, dX3_keep_55⟩
theorem tbb_X3_keep_45 {l : Launch} {g : ab_G} (hl0 : l.stackTraces = false) {d2 : Nat} (hd : 2 ≤ d2 + 1)   (l0 : Nat) (l1 : Int32) (l2 : Int32) (m0 : ab_Mm) (z : (Unit × ab_Mm)) (h : bb_X3_keep_45  l0 l1 l2 m0 = some z) : ab_W l g cX3_keep RX3 4 none [] false (d2 + 1) (.inl none) z.2 45 [(0, .ref l0), (1, .int l1), (2, .int l2)] [] m0 := by
  unfold bb_X3_keep_45 at h
  refine ru_aload_n (i := 0) dX3_keep_45 rfl rfl <| ru_iload_n (i := 1) dX3_keep_46 rfl rfl <| ?_
  refine ru_putI h dX3_keep_47 lk_X3_20 ?_
  intro m1 h
  refine ru_aload_n (i := 0) dX3_keep_50 rfl rfl <| ru_iload_n (i := 2) dX3_keep_51 rfl rfl <| ?_
  refine ru_putI h dX3_keep_52 lk_X3_24 ?_
  intro m2 h
  exact ru_pick [] rfl (tbb_X3_keep_55 hl0 hd    _ _ h)
theorem te_X3_keep {l : Launch} {g : ab_G} (hl0 : l.stackTraces = false) {d2 : Nat} (hd : 2 ≤ d2 + 1)   (l0 : Nat) (l1 : Int32) (l2 : Int32) (m0 : ab_Mm) (z : (Unit × ab_Mm)) (h : dd_X3_keep  l0 l1 l2 m0 = some z) : ab_W l g cX3_keep RX3 4 none [] false (d2 + 1) (.inl none) z.2 0 [(0, .ref l0), (1, .int l1), (2, .int l2)] [] m0 := by
  unfold dd_X3_keep at h
  refine ru_aload_n (i := 0) dX3_keep_0 rfl rfl <| ?_
  refine ru_getI h dX3_keep_1 lk_X3_20 ?_
  intro v1 h
  obtain ⟨q2, hq2, h⟩ := Option.bind_eq_some_iff.mp h
  refine ru_callS (tm_J6_bitCount_0f7a4 hl0 (by omega) hq2) dX3_keep_4 rfl pm_X3_78 mf_J6_bitCount_0f7a4 rfl rfl (Nat.le_of_ble_eq_true rfl) ?_
  refine ru_iload_n (i := 1) dX3_keep_7 rfl rfl <| ?_
  obtain ⟨q3, hq3, h⟩ := Option.bind_eq_some_iff.mp h
  refine ru_callS (tm_J6_bitCount_0f7a4 hl0 (by omega) hq3) dX3_keep_8 rfl pm_X3_78 mf_J6_bitCount_0f7a4 rfl rfl (Nat.le_of_ble_eq_true rfl) ?_
  refine ru_isub dX3_keep_11 <| ru_istore_n (i := 3) dX3_keep_12 rfl (by decide) <| ru_aload_n (i := 0) dX3_keep_13 rfl rfl <| ?_
  refine ru_getI h dX3_keep_14 lk_X3_20 ?_
  intro v4 h
  refine ru_iconst dX3_keep_17 kc_i_m1 <| ?_
  refine ru_icmp_eq (tgt := 45) dX3_keep_18 (by decide) (fun hc => ?_) (fun hc => ?_)
  · rw [if_pos hc] at h
    exact ru_pick [0, 1, 2] rfl (tbb_X3_keep_45 hl0 hd   _ _ _ _ _ h)
  · rw [if_neg hc] at h
    refine ru_iload_n (i := 2) dX3_keep_21 rfl rfl <| ru_aload_n (i := 0) dX3_keep_22 rfl rfl <| ?_
    refine ru_getI h dX3_keep_23 lk_X3_24 ?_
    intro v5 h
    refine ru_icmp_lt (tgt := 45) dX3_keep_26 (by decide) (fun hc => ?_) (fun hc => ?_)
    · rw [if_pos hc] at h
      exact ru_pick [0, 1, 2] rfl (tbb_X3_keep_45 hl0 hd   _ _ _ _ _ h)
    · rw [if_neg hc] at h
      refine ru_iload_n (i := 3) dX3_keep_29 rfl rfl <| ?_
      refine ru_if_gt (tgt := 45) dX3_keep_30 (by decide) (fun hc => ?_) (fun hc => ?_)
      · rw [if_pos hc] at h
        exact ru_pick [0, 1, 2] rfl (tbb_X3_keep_45 hl0 hd   _ _ _ _ _ h)
      · rw [if_neg hc] at h
        refine ru_iload_n (i := 3) dX3_keep_33 rfl rfl <| ?_
        refine ru_if_ne (tgt := 55) dX3_keep_34 (by decide) (fun hc => ?_) (fun hc => ?_)
        · rw [if_neg hc] at h
          exact ru_pick [] rfl (tbb_X3_keep_55 hl0 hd    _ _ h)
        · rw [if_pos hc] at h
          refine ru_iload_n (i := 1) dX3_keep_37 rfl rfl <| ru_aload_n (i := 0) dX3_keep_38 rfl rfl <| ?_
          refine ru_getI h dX3_keep_39 lk_X3_20 ?_
          intro v6 h
          refine ru_icmp_ge (tgt := 55) dX3_keep_42 (by decide) (fun hc => ?_) (fun hc => ?_)
          · rw [if_pos hc] at h
            exact ru_pick [] rfl (tbb_X3_keep_55 hl0 hd    _ _ h)
          · rw [if_neg hc] at h
            exact ru_pick [0, 1, 2] rfl (tbb_X3_keep_45 hl0 hd   _ _ _ _ _ h)
theorem tm_X3_keep {l : Launch} {g : ab_G} (hl0 : l.stackTraces = false) {d : Nat} (hd : 2 ≤ d) {l0 : Nat} {l1 : Int32} {l2 : Int32} {m : ab_Mm} {z : (Unit × ab_Mm)} (h : dd_X3_keep l0 l1 l2 m = some z) : ab_Met l g yX3_keep cX3_keep 4 none [] d [.ref l0, .int l1, .int l2] m (.inl none) z.2 := by
  obtain ⟨d2, rfl⟩ : ∃ d2, d = d2 + 1 := ⟨d - 1, by omega⟩
  exact ab_of hl0 (by decide +kernel) (Nat.le_of_ble_eq_true rfl) (fun q => by cases q) rfl (te_X3_keep hl0 hd _ _ _ _ _ h)
theorem tbb_X3_choose_27 {l : Launch} {g : ab_G} (hl0 : l.stackTraces = false) {d2 : Nat} (hd : 3 ≤ d2 + 1) (c_X3_choose : Nat → Int32 → Int32 → Int32 → Int32 → Int32 → ab_Mm → Option (Unit × ab_Mm)) (hc_X3_choose : ∀ (a0 : Nat) (a1 : Int32) (a2 : Int32) (a3 : Int32) (a4 : Int32) (a5 : Int32) (m : ab_Mm) (z : (Unit × ab_Mm)), c_X3_choose a0 a1 a2 a3 a4 a5 m = some z → ab_Met l g yX3_choose cX3_choose 7 none [] d2 [.ref a0, .int a1, .int a2, .int a3, .int a4, .int a5] m (.inl none) z.2) (l0 : Nat) (l1 : Int32) (l2 : Int32) (l3 : Int32) (l4 : Int32) (l5 : Int32) (m0 : ab_Mm) (z : (Unit × ab_Mm)) (h : bb_X3_choose_27 c_X3_choose l0 l1 l2 l3 l4 l5 m0 = some z) : ab_W l g cX3_choose RX3 7 none [] false (d2 + 1) (.inl none) z.2 27 [(0, .ref l0), (1, .int l1), (2, .int l2), (3, .int l3), (4, .int l4), (5, .int l5)] [] m0 := by
  unfold bb_X3_choose_27 at h
  refine ru_aload_n (i := 0) dX3_choose_27 rfl rfl <| ?_
  refine ru_getR h dX3_choose_28 lk_X3_14 ?_
  intro v1 h
  refine ru_astore dX3_choose_31 (by decide) <| ru_aload dX3_choose_33 rfl <| ru_iload_n (i := 1) dX3_choose_35 rfl rfl <| ?_
  obtain ⟨_, hrc, h⟩ := Option.bind_eq_some_iff.mp h
  obtain ⟨q2, hq2, h⟩ := Option.bind_eq_some_iff.mp h
  refine ru_callV (tm_X10_has hl0 (by omega) hq2) dX3_choose_36 rfl pm_X3_75 mf_X10_has (ab_rcv_of hrc rfl) rfl rfl (Nat.le_of_ble_eq_true rfl) ?_
  refine ru_if_ne (tgt := 43) dX3_choose_39 (by decide) (fun hc => ?_) (fun hc => ?_)
  · rw [if_neg hc] at h
    refine ru_aload_n (i := 0) dX3_choose_43 rfl rfl <| ru_iload_n (i := 1) dX3_choose_44 rfl rfl <| ru_iconst dX3_choose_45 kc_i_1 <| ru_iadd dX3_choose_46 <| ru_iload_n (i := 2) dX3_choose_47 rfl rfl <| ru_iconst dX3_choose_48 kc_i_1 <| ru_aload dX3_choose_49 rfl <| ru_iload_n (i := 1) dX3_choose_51 rfl rfl <| ru_iconst dX3_choose_52 kc_i_3 <| ?_
    obtain ⟨_, hrc, h⟩ := Option.bind_eq_some_iff.mp h
    obtain ⟨q3, hq3, h⟩ := Option.bind_eq_some_iff.mp h
    refine ru_callV (tm_X10_get hl0 (by omega) hq3) dX3_choose_53 rfl pm_X3_40 mf_X10_get (ab_rcv_of hrc rfl) rfl rfl (Nat.le_of_ble_eq_true rfl) ?_
    refine ru_ishl dX3_choose_56 <| ru_ior dX3_choose_57 <| ru_iload_n (i := 3) dX3_choose_58 rfl rfl <| ru_aload dX3_choose_59 rfl <| ru_iload_n (i := 1) dX3_choose_61 rfl rfl <| ru_iconst dX3_choose_62 kc_i_0 <| ?_
    obtain ⟨_, hrc, h⟩ := Option.bind_eq_some_iff.mp h
    obtain ⟨q4, hq4, h⟩ := Option.bind_eq_some_iff.mp h
    refine ru_callV (tm_X10_get hl0 (by omega) hq4) dX3_choose_63 rfl pm_X3_40 mf_X10_get (ab_rcv_of hrc rfl) rfl rfl (Nat.le_of_ble_eq_true rfl) ?_
    refine ru_isub dX3_choose_66 <| ru_iload dX3_choose_67 rfl <| ru_aload dX3_choose_69 rfl <| ru_iload_n (i := 1) dX3_choose_71 rfl rfl <| ru_iconst dX3_choose_72 kc_i_1 <| ?_
    obtain ⟨_, hrc, h⟩ := Option.bind_eq_some_iff.mp h
    obtain ⟨q5, hq5, h⟩ := Option.bind_eq_some_iff.mp h
    refine ru_callV (tm_X10_get hl0 (by omega) hq5) dX3_choose_73 rfl pm_X3_40 mf_X10_get (ab_rcv_of hrc rfl) rfl rfl (Nat.le_of_ble_eq_true rfl) ?_
    refine ru_isub dX3_choose_76 <| ru_iload dX3_choose_77 rfl <| ru_aload dX3_choose_79 rfl <| ru_iload_n (i := 1) dX3_choose_81 rfl rfl <| ru_iconst dX3_choose_82 kc_i_2 <| ?_
    obtain ⟨_, hrc, h⟩ := Option.bind_eq_some_iff.mp h
    obtain ⟨q6, hq6, h⟩ := Option.bind_eq_some_iff.mp h
    refine ru_callV (tm_X10_get hl0 (by omega) hq6) dX3_choose_83 rfl pm_X3_40 mf_X10_get (ab_rcv_of hrc rfl) rfl rfl (Nat.le_of_ble_eq_true rfl) ?_
    refine ru_iadd dX3_choose_86 <| ?_
    obtain ⟨q7, hq7, h⟩ := Option.bind_eq_some_iff.mp h
    refine ru_callS (hc_X3_choose _ _ _ _ _ _ _ _ hq7) dX3_choose_87 rfl pm_X3_57 mf_X3_choose rfl rfl (Nat.le_of_ble_eq_true rfl) ?_
    refine ru_aload_n (i := 0) dX3_choose_90 rfl rfl <| ru_iload_n (i := 1) dX3_choose_91 rfl rfl <| ru_iconst dX3_choose_92 kc_i_1 <| ru_iadd dX3_choose_93 <| ru_iload_n (i := 2) dX3_choose_94 rfl rfl <| ru_iload_n (i := 3) dX3_choose_95 rfl rfl <| ru_iload dX3_choose_96 rfl <| ru_iload dX3_choose_98 rfl <| ?_
    obtain ⟨q8, hq8, h⟩ := Option.bind_eq_some_iff.mp h
    refine ru_callS (hc_X3_choose _ _ _ _ _ _ _ _ hq8) dX3_choose_100 rfl pm_X3_57 mf_X3_choose rfl rfl (Nat.le_of_ble_eq_true rfl) ?_
    cases h
    exact ru_ret (v := none) ⟨rfl, dX3_choose_103⟩
  · rw [if_pos hc] at h
    cases h
    exact ru_ret (v := none) ⟨rfl, dX3_choose_42⟩
theorem te_X3_choose {l : Launch} {g : ab_G} (hl0 : l.stackTraces = false) {d2 : Nat} (hd : 3 ≤ d2 + 1) (c_X3_choose : Nat → Int32 → Int32 → Int32 → Int32 → Int32 → ab_Mm → Option (Unit × ab_Mm)) (hc_X3_choose : ∀ (a0 : Nat) (a1 : Int32) (a2 : Int32) (a3 : Int32) (a4 : Int32) (a5 : Int32) (m : ab_Mm) (z : (Unit × ab_Mm)), c_X3_choose a0 a1 a2 a3 a4 a5 m = some z → ab_Met l g yX3_choose cX3_choose 7 none [] d2 [.ref a0, .int a1, .int a2, .int a3, .int a4, .int a5] m (.inl none) z.2) (l0 : Nat) (l1 : Int32) (l2 : Int32) (l3 : Int32) (l4 : Int32) (l5 : Int32) (m0 : ab_Mm) (z : (Unit × ab_Mm)) (h : st_X3_choose c_X3_choose l0 l1 l2 l3 l4 l5 m0 = some z) : ab_W l g cX3_choose RX3 7 none [] false (d2 + 1) (.inl none) z.2 0 [(0, .ref l0), (1, .int l1), (2, .int l2), (3, .int l3), (4, .int l4), (5, .int l5)] [] m0 := by
  unfold st_X3_choose at h
  refine ru_iload dX3_choose_0 rfl <| ru_aload_n (i := 0) dX3_choose_2 rfl rfl <| ?_
  refine ru_getI h dX3_choose_3 lk_X3_24 ?_
  intro v1 h
  refine ru_icmp_le (tgt := 10) dX3_choose_6 (by decide) (fun hc => ?_) (fun hc => ?_)
  · rw [if_pos hc] at h
    refine ru_iload_n (i := 3) dX3_choose_10 rfl rfl <| ?_
    refine ru_if_gt (tgt := 27) dX3_choose_11 (by decide) (fun hc => ?_) (fun hc => ?_)
    · rw [if_pos hc] at h
      exact ru_pick [0, 1, 2, 3, 4, 5] rfl (tbb_X3_choose_27 hl0 hd _ hc_X3_choose _ _ _ _ _ _ _ _ h)
    · rw [if_neg hc] at h
      refine ru_iload dX3_choose_14 rfl <| ?_
      refine ru_if_gt (tgt := 27) dX3_choose_16 (by decide) (fun hc => ?_) (fun hc => ?_)
      · rw [if_pos hc] at h
        exact ru_pick [0, 1, 2, 3, 4, 5] rfl (tbb_X3_choose_27 hl0 hd _ hc_X3_choose _ _ _ _ _ _ _ _ h)
      · rw [if_neg hc] at h
        refine ru_aload_n (i := 0) dX3_choose_19 rfl rfl <| ru_iload_n (i := 2) dX3_choose_20 rfl rfl <| ru_iload dX3_choose_21 rfl <| ?_
        obtain ⟨_, hrc, h⟩ := Option.bind_eq_some_iff.mp h
        obtain ⟨q2, hq2, h⟩ := Option.bind_eq_some_iff.mp h
        refine ru_callV (tm_X3_keep hl0 (by omega) hq2) dX3_choose_23 rfl pm_X3_72 mf_X3_keep (ab_rcv_of hrc rfl) rfl rfl (Nat.le_of_ble_eq_true rfl) ?_
        cases h
        exact ru_ret (v := none) ⟨rfl, dX3_choose_26⟩
  · rw [if_neg hc] at h
    cases h
    exact ru_ret (v := none) ⟨rfl, dX3_choose_9⟩
theorem tg_X3_choose {l : Launch} {g : ab_G} (hl0 : l.stackTraces = false) : ∀ n : Nat, (∀ d, n + 3 ≤ d → ∀ (a0 : Nat) (a1 : Int32) (a2 : Int32) (a3 : Int32) (a4 : Int32) (a5 : Int32) (m : ab_Mm) (z : (Unit × ab_Mm)), dd_X3_choose n a0 a1 a2 a3 a4 a5 m = some z → ab_Met l g yX3_choose cX3_choose 7 none [] d [.ref a0, .int a1, .int a2, .int a3, .int a4, .int a5] m (.inl none) z.2) ∧ True := by
  intro n
  induction n with
  | zero => exact ⟨fun d hd _ _ _ _ _ _ m z h => (by cases h), trivial⟩
  | succ n ih =>
    refine ⟨?_, trivial⟩
    · intro d hd a0 a1 a2 a3 a4 a5 m z h
      obtain ⟨d2, rfl⟩ : ∃ d2, d = d2 + 1 := ⟨d - 1, by omega⟩
      exact ab_of hl0 (by decide +kernel) (Nat.le_of_ble_eq_true rfl) (fun q => by cases q) rfl (te_X3_choose hl0 (by omega) _ (fun b0 b1 b2 b3 b4 b5 m z h => ih.1 d2 (by omega) b0 b1 b2 b3 b4 b5 m z h) _ _ _ _ _ _ _ _ h)
theorem tm_X3_choose {l : Launch} {g : ab_G} (hl0 : l.stackTraces = false) {d : Nat} (hd : 33 ≤ d) {a0 : Nat} {a1 : Int32} {a2 : Int32} {a3 : Int32} {a4 : Int32} {a5 : Int32} {m : ab_Mm} {z : (Unit × ab_Mm)} (h : dd_X3_choose 30 a0 a1 a2 a3 a4 a5 m = some z) : ab_Met l g yX3_choose cX3_choose 7 none [] d [.ref a0, .int a1, .int a2, .int a3, .int a4, .int a5] m (.inl none) z.2 := (tg_X3_choose hl0 30).1 d (by omega) a0 a1 a2 a3 a4 a5 m z h
theorem tbb_X3_cheapest_85 {l : Launch} {g : ab_G} (hl0 : l.stackTraces = false) {d2 : Nat} (hd : 34 ≤ d2 + 1) (r21 : Nat → Nat → Nat → Int32 → Int32 → Int32 → ab_Mm → Option (Int32 × ab_Mm)) (hr21 : ∀ (l0 : Nat) (l1 : Nat) (l2 : Nat) (l3 : Int32) (l4 : Int32) (l5 : Int32) (m : ab_Mm) (z : (Int32 × ab_Mm)), r21 l0 l1 l2 l3 l4 l5 m = some z → ab_W l g cX3_cheapest RX3 7 (some .int) [] false (d2 + 1) (.inl (some (.int z.1))) z.2 21 [(0, .ref l0), (1, .ref l1), (2, .ref l2), (3, .int l3), (4, .int l4), (5, .int l5)] [] m) (l0 : Nat) (l1 : Nat) (l2 : Nat) (l3 : Int32) (l4 : Int32) (l5 : Int32) (m0 : ab_Mm) (z : (Int32 × ab_Mm)) (h : bb_X3_cheapest_85 r21 l0 l1 l2 l3 l4 l5 m0 = some z) : ab_W l g cX3_cheapest RX3 7 (some .int) [] false (d2 + 1) (.inl (some (.int z.1))) z.2 85 [(0, .ref l0), (1, .ref l1), (2, .ref l2), (3, .int l3), (4, .int l4), (5, .int l5)] [] m0 := by
  unfold bb_X3_cheapest_85 at h
  refine ru_iinc dX3_cheapest_85 (by decide) rfl (ab_inc kc_i_1) <| ru_goto (tgt := 21) dX3_cheapest_88 (by decide) <| ?_
  exact ru_pick [0, 1, 2, 3, 4, 5] rfl (hr21 _ _ _ _ _ _ _ _ h)
theorem tbb_X3_cheapest_56 {l : Launch} {g : ab_G} (hl0 : l.stackTraces = false) {d2 : Nat} (hd : 34 ≤ d2 + 1) (r21 : Nat → Nat → Nat → Int32 → Int32 → Int32 → ab_Mm → Option (Int32 × ab_Mm)) (hr21 : ∀ (l0 : Nat) (l1 : Nat) (l2 : Nat) (l3 : Int32) (l4 : Int32) (l5 : Int32) (m : ab_Mm) (z : (Int32 × ab_Mm)), r21 l0 l1 l2 l3 l4 l5 m = some z → ab_W l g cX3_cheapest RX3 7 (some .int) [] false (d2 + 1) (.inl (some (.int z.1))) z.2 21 [(0, .ref l0), (1, .ref l1), (2, .ref l2), (3, .int l3), (4, .int l4), (5, .int l5)] [] m) (l0 : Nat) (l1 : Nat) (l2 : Nat) (l3 : Int32) (l4 : Int32) (l5 : Int32) (s0 : Int32) (m0 : ab_Mm) (z : (Int32 × ab_Mm)) (h : bb_X3_cheapest_56 r21 l0 l1 l2 l3 l4 l5 s0 m0 = some z) : ab_W l g cX3_cheapest RX3 7 (some .int) [] false (d2 + 1) (.inl (some (.int z.1))) z.2 56 [(0, .ref l0), (1, .ref l1), (2, .ref l2), (3, .int l3), (4, .int l4), (5, .int l5)] [.int s0] m0 := by
  unfold bb_X3_cheapest_56 at h
  refine ru_istore dX3_cheapest_56 (by decide) <| ru_iload dX3_cheapest_58 rfl <| ?_
  refine ru_if_eq (tgt := 85) dX3_cheapest_60 (by decide) (fun hc => ?_) (fun hc => ?_)
  · rw [if_pos hc] at h
    exact ru_pick [0, 1, 2, 3, 4, 5] rfl (tbb_X3_cheapest_85 hl0 hd _ hr21 _ _ _ _ _ _ _ _ h)
  · rw [if_neg hc] at h
    refine ru_aload_n (i := 2) dX3_cheapest_63 rfl rfl <| ?_
    refine ru_getR h dX3_cheapest_64 lk_X3_37 ?_
    intro v1 h
    refine ru_iload dX3_cheapest_67 rfl <| ru_iconst dX3_cheapest_69 kc_i_2 <| ?_
    obtain ⟨_, hrc, h⟩ := Option.bind_eq_some_iff.mp h
    obtain ⟨q2, hq2, h⟩ := Option.bind_eq_some_iff.mp h
    refine ru_callV (tm_X10_get hl0 (by omega) hq2) dX3_cheapest_70 rfl pm_X3_40 mf_X10_get (ab_rcv_of hrc rfl) rfl rfl (Nat.le_of_ble_eq_true rfl) ?_
    refine ru_iconst dX3_cheapest_73 kc_i_m1 <| ?_
    refine ru_icmp_eq (tgt := 85) dX3_cheapest_74 (by decide) (fun hc => ?_) (fun hc => ?_)
    · rw [if_pos hc] at h
      exact ru_pick [0, 1, 2, 3, 4, 5] rfl (tbb_X3_cheapest_85 hl0 hd _ hr21 _ _ _ _ _ _ _ _ h)
    · rw [if_neg hc] at h
      refine ru_aload_n (i := 0) dX3_cheapest_77 rfl rfl <| ru_aload_n (i := 1) dX3_cheapest_78 rfl rfl <| ru_aload_n (i := 2) dX3_cheapest_79 rfl rfl <| ru_iload dX3_cheapest_80 rfl <| ?_
      obtain ⟨_, hrc, h⟩ := Option.bind_eq_some_iff.mp h
      obtain ⟨q3, hq3, h⟩ := Option.bind_eq_some_iff.mp h
      refine ru_callV (tm_X3_addSpot hl0 (by omega) hq3) dX3_cheapest_82 rfl pm_X3_44 mf_X3_addSpot (ab_rcv_of hrc rfl) rfl rfl (Nat.le_of_ble_eq_true rfl) ?_
      exact ru_pick [0, 1, 2, 3, 4, 5] rfl (tbb_X3_cheapest_85 hl0 hd _ hr21 _ _ _ _ _ _ _ _ h)
theorem tbb_X3_cheapest_55 {l : Launch} {g : ab_G} (hl0 : l.stackTraces = false) {d2 : Nat} (hd : 34 ≤ d2 + 1) (r21 : Nat → Nat → Nat → Int32 → Int32 → Int32 → ab_Mm → Option (Int32 × ab_Mm)) (hr21 : ∀ (l0 : Nat) (l1 : Nat) (l2 : Nat) (l3 : Int32) (l4 : Int32) (l5 : Int32) (m : ab_Mm) (z : (Int32 × ab_Mm)), r21 l0 l1 l2 l3 l4 l5 m = some z → ab_W l g cX3_cheapest RX3 7 (some .int) [] false (d2 + 1) (.inl (some (.int z.1))) z.2 21 [(0, .ref l0), (1, .ref l1), (2, .ref l2), (3, .int l3), (4, .int l4), (5, .int l5)] [] m) (l0 : Nat) (l1 : Nat) (l2 : Nat) (l3 : Int32) (l4 : Int32) (l5 : Int32) (m0 : ab_Mm) (z : (Int32 × ab_Mm)) (h : bb_X3_cheapest_55 r21 l0 l1 l2 l3 l4 l5 m0 = some z) : ab_W l g cX3_cheapest RX3 7 (some .int) [] false (d2 + 1) (.inl (some (.int z.1))) z.2 55 [(0, .ref l0), (1, .ref l1), (2, .ref l2), (3, .int l3), (4, .int l4), (5, .int l5)] [] m0 := by
  unfold bb_X3_cheapest_55 at h
  refine ru_iconst dX3_cheapest_55 kc_i_0 <| ?_
  exact ru_pick [0, 1, 2, 3, 4, 5] rfl (tbb_X3_cheapest_56 hl0 hd _ hr21 _ _ _ _ _ _ _ _ _ h)
theorem tbb_X3_cheapest_21 {l : Launch} {g : ab_G} (hl0 : l.stackTraces = false) {d2 : Nat} (hd : 34 ≤ d2 + 1)   : ∀ (n : Nat) (l0 : Nat) (l1 : Nat) (l2 : Nat) (l3 : Int32) (l4 : Int32) (l5 : Int32) (m0 : ab_Mm) (z : (Int32 × ab_Mm)), bb_X3_cheapest_21  n l0 l1 l2 l3 l4 l5 m0 = some z → ab_W l g cX3_cheapest RX3 7 (some .int) [] false (d2 + 1) (.inl (some (.int z.1))) z.2 21 [(0, .ref l0), (1, .ref l1), (2, .ref l2), (3, .int l3), (4, .int l4), (5, .int l5)] [] m0 := by
  intro n
  induction n with
  | zero => intro l0 l1 l2 l3 l4 l5 m0 z h; cases h
  | succ n ih =>
    intro l0 l1 l2 l3 l4 l5 m0 z h
    rw [bb_X3_cheapest_21] at h
    refine ru_iload dX3_cheapest_21 rfl <| ru_bipush dX3_cheapest_23 kc_b_12 <| ?_
    refine ru_icmp_ge (tgt := 91) dX3_cheapest_25 (by decide) (fun hc => ?_) (fun hc => ?_)
    · rw [if_pos hc] at h
      refine ru_aload_n (i := 1) dX3_cheapest_91 rfl rfl <| ?_
      refine ru_getR h dX3_cheapest_92 lk_X3_48 ?_
      intro v1 h
      refine ru_iload dX3_cheapest_95 rfl <| ru_iconst dX3_cheapest_97 kc_i_0 <| ?_
      obtain ⟨_, hrc, h⟩ := Option.bind_eq_some_iff.mp h
      obtain ⟨q2, hq2, h⟩ := Option.bind_eq_some_iff.mp h
      refine ru_callV (tm_X10_get hl0 (by omega) hq2) dX3_cheapest_98 rfl pm_X3_40 mf_X10_get (ab_rcv_of hrc rfl) rfl rfl (Nat.le_of_ble_eq_true rfl) ?_
      refine ru_aload_n (i := 2) dX3_cheapest_101 rfl rfl <| ru_aload_n (i := 1) dX3_cheapest_102 rfl rfl <| ru_iload_n (i := 3) dX3_cheapest_103 rfl rfl <| ru_iconst dX3_cheapest_104 kc_i_0 <| ?_
      obtain ⟨_, hrc, h⟩ := Option.bind_eq_some_iff.mp h
      obtain ⟨q3, hq3, h⟩ := Option.bind_eq_some_iff.mp h
      refine ru_callV (tm_X8_left hl0 (by omega) hq3) dX3_cheapest_105 rfl pm_X3_53 mf_X8_left (ab_rcv_of hrc rfl) rfl rfl (Nat.le_of_ble_eq_true rfl) ?_
      refine ru_isub dX3_cheapest_108 <| ru_istore dX3_cheapest_109 (by decide) <| ru_aload_n (i := 1) dX3_cheapest_111 rfl rfl <| ?_
      refine ru_getR h dX3_cheapest_112 lk_X3_48 ?_
      intro v4 h
      refine ru_iload dX3_cheapest_115 rfl <| ru_iconst dX3_cheapest_117 kc_i_1 <| ?_
      obtain ⟨_, hrc, h⟩ := Option.bind_eq_some_iff.mp h
      obtain ⟨q5, hq5, h⟩ := Option.bind_eq_some_iff.mp h
      refine ru_callV (tm_X10_get hl0 (by omega) hq5) dX3_cheapest_118 rfl pm_X3_40 mf_X10_get (ab_rcv_of hrc rfl) rfl rfl (Nat.le_of_ble_eq_true rfl) ?_
      refine ru_aload_n (i := 2) dX3_cheapest_121 rfl rfl <| ru_aload_n (i := 1) dX3_cheapest_122 rfl rfl <| ru_iload_n (i := 3) dX3_cheapest_123 rfl rfl <| ru_iconst dX3_cheapest_124 kc_i_1 <| ?_
      obtain ⟨_, hrc, h⟩ := Option.bind_eq_some_iff.mp h
      obtain ⟨q6, hq6, h⟩ := Option.bind_eq_some_iff.mp h
      refine ru_callV (tm_X8_left hl0 (by omega) hq6) dX3_cheapest_125 rfl pm_X3_53 mf_X8_left (ab_rcv_of hrc rfl) rfl rfl (Nat.le_of_ble_eq_true rfl) ?_
      refine ru_isub dX3_cheapest_128 <| ru_istore dX3_cheapest_129 (by decide) <| ru_aload_n (i := 0) dX3_cheapest_131 rfl rfl <| ru_iconst dX3_cheapest_132 kc_i_0 <| ru_iconst dX3_cheapest_133 kc_i_0 <| ru_iload dX3_cheapest_134 rfl <| ru_iload dX3_cheapest_136 rfl <| ru_iconst dX3_cheapest_138 kc_i_0 <| ?_
      obtain ⟨q7, hq7, h⟩ := Option.bind_eq_some_iff.mp h
      refine ru_callS (tm_X3_choose hl0 (by omega) hq7) dX3_cheapest_139 rfl pm_X3_57 mf_X3_choose rfl rfl (Nat.le_of_ble_eq_true rfl) ?_
      refine ru_aload_n (i := 0) dX3_cheapest_142 rfl rfl <| ?_
      refine ru_getI h dX3_cheapest_143 lk_X3_20 ?_
      intro v8 h
      cases h
      exact ru_ret (v := some (.int _)) ⟨_, rfl, rfl, dX3_cheapest_146⟩
    · rw [if_neg hc] at h
      refine ru_aload_n (i := 2) dX3_cheapest_28 rfl rfl <| ru_iload dX3_cheapest_29 rfl <| ?_
      obtain ⟨_, hrc, h⟩ := Option.bind_eq_some_iff.mp h
      obtain ⟨q9, hq9, h⟩ := Option.bind_eq_some_iff.mp h
      refine ru_callV (tm_X8_runs hl0 (by omega) hq9) dX3_cheapest_31 rfl pm_X3_31 mf_X8_runs (ab_rcv_of hrc rfl) rfl rfl (Nat.le_of_ble_eq_true rfl) ?_
      refine ru_if_eq (tgt := 55) dX3_cheapest_34 (by decide) (fun hc => ?_) (fun hc => ?_)
      · rw [if_pos hc] at h
        exact ru_pick [0, 1, 2, 3, 4, 5] rfl (tbb_X3_cheapest_55 hl0 hd _ ih _ _ _ _ _ _ _ _ h)
      · rw [if_neg hc] at h
        refine ru_aload_n (i := 2) dX3_cheapest_37 rfl rfl <| ?_
        refine ru_getR h dX3_cheapest_38 lk_X3_37 ?_
        intro v10 h
        refine ru_iload dX3_cheapest_41 rfl <| ru_iconst dX3_cheapest_43 kc_i_3 <| ?_
        obtain ⟨_, hrc, h⟩ := Option.bind_eq_some_iff.mp h
        obtain ⟨q11, hq11, h⟩ := Option.bind_eq_some_iff.mp h
        refine ru_callV (tm_X10_get hl0 (by omega) hq11) dX3_cheapest_44 rfl pm_X3_40 mf_X10_get (ab_rcv_of hrc rfl) rfl rfl (Nat.le_of_ble_eq_true rfl) ?_
        refine ru_iload_n (i := 3) dX3_cheapest_47 rfl rfl <| ?_
        refine ru_icmp_ne (tgt := 55) dX3_cheapest_48 (by decide) (fun hc => ?_) (fun hc => ?_)
        · rw [if_neg hc] at h
          exact ru_pick [0, 1, 2, 3, 4, 5] rfl (tbb_X3_cheapest_55 hl0 hd _ ih _ _ _ _ _ _ _ _ h)
        · rw [if_pos hc] at h
          refine ru_iconst dX3_cheapest_51 kc_i_1 <| ru_goto (tgt := 56) dX3_cheapest_52 (by decide) <| ?_
          exact ru_pick [0, 1, 2, 3, 4, 5] rfl (tbb_X3_cheapest_56 hl0 hd _ ih _ _ _ _ _ _ _ _ _ h)
theorem te_X3_cheapest {l : Launch} {g : ab_G} (hl0 : l.stackTraces = false) {d2 : Nat} (hd : 34 ≤ d2 + 1)   (l0 : Nat) (l1 : Nat) (l2 : Nat) (l3 : Int32) (l4 : Int32) (m0 : ab_Mm) (z : (Int32 × ab_Mm)) (h : dd_X3_cheapest  l0 l1 l2 l3 l4 m0 = some z) : ab_W l g cX3_cheapest RX3 7 (some .int) [] false (d2 + 1) (.inl (some (.int z.1))) z.2 0 [(0, .ref l0), (1, .ref l1), (2, .ref l2), (3, .int l3), (4, .int l4)] [] m0 := by
  unfold dd_X3_cheapest at h
  refine ru_aload_n (i := 0) dX3_cheapest_0 rfl rfl <| ?_
  refine ru_getR h dX3_cheapest_1 lk_X3_14 ?_
  intro v1 h
  obtain ⟨_, hrc, h⟩ := Option.bind_eq_some_iff.mp h
  obtain ⟨q2, hq2, h⟩ := Option.bind_eq_some_iff.mp h
  refine ru_callV (tm_X10_clear hl0 (by omega) hq2) dX3_cheapest_4 rfl pm_X3_27 mf_X10_clear (ab_rcv_of hrc rfl) rfl rfl (Nat.le_of_ble_eq_true rfl) ?_
  refine ru_aload_n (i := 0) dX3_cheapest_7 rfl rfl <| ru_iconst dX3_cheapest_8 kc_i_m1 <| ?_
  refine ru_putI h dX3_cheapest_9 lk_X3_20 ?_
  intro m3 h
  refine ru_aload_n (i := 0) dX3_cheapest_12 rfl rfl <| ru_ldc dX3_cheapest_13 pk_X3_30 <| ?_
  refine ru_putI h dX3_cheapest_15 lk_X3_24 ?_
  intro m4 h
  refine ru_iconst dX3_cheapest_18 kc_i_0 <| ru_istore dX3_cheapest_19 (by decide) <| ?_
  exact ru_pick [0, 1, 2, 3, 4, 5] rfl (tbb_X3_cheapest_21 hl0 hd   _ _ _ _ _ _ _ _ _ h)
theorem tm_X3_cheapest {l : Launch} {g : ab_G} (hl0 : l.stackTraces = false) {d : Nat} (hd : 34 ≤ d) {l0 : Nat} {l1 : Nat} {l2 : Nat} {l3 : Int32} {l4 : Int32} {m : ab_Mm} {z : (Int32 × ab_Mm)} (h : dd_X3_cheapest l0 l1 l2 l3 l4 m = some z) : ab_Met l g yX3_cheapest cX3_cheapest 7 (some .int) [] d [.ref l0, .ref l1, .ref l2, .int l3, .int l4] m (.inl (some (.int z.1))) z.2 := by
  obtain ⟨d2, rfl⟩ : ∃ d2, d = d2 + 1 := ⟨d - 1, by omega⟩
  exact ab_of hl0 (by decide +kernel) (Nat.le_of_ble_eq_true rfl) (fun q => by cases q) rfl (te_X3_cheapest hl0 hd _ _ _ _ _ _ _ h)
theorem tbb_X4_init_68 {l : Launch} {g : ab_G} (hl0 : l.stackTraces = false) {d2 : Nat} (hd : 3 ≤ d2 + 1)   : ∀ (n : Nat) (l0 : Nat) (l1 : Int32) (m0 : ab_Mm) (z : (Unit × ab_Mm)), bb_X4_init_68  n l0 l1 m0 = some z → ab_W l g cX4_init RX4 2 none [] true (d2 + 1) (.inl none) z.2 68 [(0, .ref l0), (1, .int l1)] [] m0 := by
  intro n
  induction n with
  | zero => intro l0 l1 m0 z h; cases h
  | succ n ih =>
    intro l0 l1 m0 z h
    rw [bb_X4_init_68] at h
    refine ru_iload_n (i := 1) dX4_init_68 rfl rfl <| ru_aload_n (i := 0) dX4_init_69 rfl rfl <| ?_
    refine ru_getR h dX4_init_70 lk_X4_17 ?_
    intro v1 h
    refine ru_alen 4 h dX4_init_73 ?_
    intro v2 h
    refine ru_icmp_ge (tgt := 96) dX4_init_74 (by decide) (fun hc => ?_) (fun hc => ?_)
    · rw [if_pos hc] at h
      cases h
      exact ru_ret (v := none) ⟨rfl, dX4_init_96⟩
    · rw [if_neg hc] at h
      refine ru_aload_n (i := 0) dX4_init_77 rfl rfl <| ?_
      refine ru_getR h dX4_init_78 lk_X4_17 ?_
      intro v3 h
      refine ru_iload_n (i := 1) dX4_init_81 rfl rfl <| ?_
      refine ru_new h dX4_init_82 nw_X4_9 ?_
      intro q4 h
      refine ru_dup dX4_init_85 rfl <| ?_
      obtain ⟨q5, hq5, h⟩ := Option.bind_eq_some_iff.mp h
      refine ru_callI rfl (tm_X8_init hl0 (by omega) hq5) dX4_init_86 rfl (Or.inr pn_X4_30) mf_X8_init rfl rfl (Nat.le_of_ble_eq_true rfl) ?_
      refine ru_aastore h dX4_init_89 ?_
      intro m6 h
      refine ru_iinc dX4_init_90 (by decide) rfl (ab_inc kc_i_1) <| ru_goto (tgt := 68) dX4_init_93 (by decide) <| ?_
      exact ru_pick [0, 1] rfl (ih _ _ _ _ h)
theorem tbb_X4_init_38 {l : Launch} {g : ab_G} (hl0 : l.stackTraces = false) {d2 : Nat} (hd : 3 ≤ d2 + 1)   : ∀ (n : Nat) (l0 : Nat) (l1 : Int32) (m0 : ab_Mm) (z : (Unit × ab_Mm)), bb_X4_init_38  n l0 l1 m0 = some z → ab_W l g cX4_init RX4 2 none [] true (d2 + 1) (.inl none) z.2 38 [(0, .ref l0), (1, .int l1)] [] m0 := by
  intro n
  induction n with
  | zero => intro l0 l1 m0 z h; cases h
  | succ n ih =>
    intro l0 l1 m0 z h
    rw [bb_X4_init_38] at h
    refine ru_iload_n (i := 1) dX4_init_38 rfl rfl <| ru_aload_n (i := 0) dX4_init_39 rfl rfl <| ?_
    refine ru_getR h dX4_init_40 lk_X4_11 ?_
    intro v1 h
    refine ru_alen 4 h dX4_init_43 ?_
    intro v2 h
    refine ru_icmp_ge (tgt := 66) dX4_init_44 (by decide) (fun hc => ?_) (fun hc => ?_)
    · rw [if_pos hc] at h
      refine ru_iconst dX4_init_66 kc_i_0 <| ru_istore_n (i := 1) dX4_init_67 rfl (by decide) <| ?_
      exact ru_pick [0, 1] rfl (tbb_X4_init_68 hl0 hd   _ _ _ _ _ h)
    · rw [if_neg hc] at h
      refine ru_aload_n (i := 0) dX4_init_47 rfl rfl <| ?_
      refine ru_getR h dX4_init_48 lk_X4_11 ?_
      intro v3 h
      refine ru_iload_n (i := 1) dX4_init_51 rfl rfl <| ?_
      refine ru_new h dX4_init_52 nw_X4_9 ?_
      intro q4 h
      refine ru_dup dX4_init_55 rfl <| ?_
      obtain ⟨q5, hq5, h⟩ := Option.bind_eq_some_iff.mp h
      refine ru_callI rfl (tm_X8_init hl0 (by omega) hq5) dX4_init_56 rfl (Or.inr pn_X4_30) mf_X8_init rfl rfl (Nat.le_of_ble_eq_true rfl) ?_
      refine ru_aastore h dX4_init_59 ?_
      intro m6 h
      refine ru_iinc dX4_init_60 (by decide) rfl (ab_inc kc_i_1) <| ru_goto (tgt := 38) dX4_init_63 (by decide) <| ?_
      exact ru_pick [0, 1] rfl (ih _ _ _ _ h)
theorem te_X4_init {l : Launch} {g : ab_G} (hl0 : l.stackTraces = false) {d2 : Nat} (hd : 3 ≤ d2 + 1)   (l0 : Nat) (m0 : ab_Mm) (z : (Unit × ab_Mm)) (h : dd_X4_init  l0 m0 = some z) : ab_W l g cX4_init RX4 2 none [] true (d2 + 1) (.inl none) z.2 0 [(0, .ref l0)] [] m0 := by
  unfold dd_X4_init at h
  refine ru_aload_n (i := 0) dX4_init_0 rfl rfl <| ru_objInit dX4_init_1 ⟨pm_X4_3, po_inst, po_code⟩ (Nat.le_of_ble_eq_true rfl) <| ru_aload_n (i := 0) dX4_init_4 rfl rfl <| ru_bipush dX4_init_5 kc_b_10 <| ?_
  refine ru_anew h dX4_init_7 pc_X4_9 ?_
  intro q1 h
  refine ru_putR h dX4_init_10 lk_X4_11 (fun _ => ⟨rfl, rfl⟩) rfl (fun q hq => by cases hq; rfl) (fun q hq => by cases hq; exact pf_X4_11) ?_
  intro m2 h
  refine ru_aload_n (i := 0) dX4_init_13 rfl rfl <| ru_iconst dX4_init_14 kc_i_2 <| ?_
  refine ru_anew h dX4_init_15 pc_X4_9 ?_
  intro q3 h
  refine ru_putR h dX4_init_18 lk_X4_17 (fun _ => ⟨rfl, rfl⟩) rfl (fun q hq => by cases hq; rfl) (fun q hq => by cases hq; exact pf_X4_17) ?_
  intro m4 h
  refine ru_aload_n (i := 0) dX4_init_21 rfl rfl <| ru_iconst dX4_init_22 kc_i_0 <| ?_
  refine ru_putI h dX4_init_23 lk_X4_20 ?_
  intro m5 h
  refine ru_aload_n (i := 0) dX4_init_26 rfl rfl <| ru_iconst dX4_init_27 kc_i_0 <| ?_
  refine ru_putI h dX4_init_28 lk_X4_24 ?_
  intro m6 h
  refine ru_aload_n (i := 0) dX4_init_31 rfl rfl <| ru_iconst dX4_init_32 kc_i_0 <| ?_
  refine ru_putI h dX4_init_33 lk_X4_27 ?_
  intro m7 h
  refine ru_iconst dX4_init_36 kc_i_0 <| ru_istore_n (i := 1) dX4_init_37 rfl (by decide) <| ?_
  exact ru_pick [0, 1] rfl (tbb_X4_init_38 hl0 hd   _ _ _ _ _ h)
theorem tm_X4_init {l : Launch} {g : ab_G} (hl0 : l.stackTraces = false) {d : Nat} (hd : 3 ≤ d) {l0 : Nat} {m : ab_Mm} {z : (Unit × ab_Mm)} (h : dd_X4_init l0 m = some z) : ab_Met l g yX4_init cX4_init 2 none [] d [.ref l0] m (.inl none) z.2 := by
  obtain ⟨d2, rfl⟩ : ∃ d2, d = d2 + 1 := ⟨d - 1, by omega⟩
  exact ab_of hl0 (by decide +kernel) (Nat.le_of_ble_eq_true rfl) (fun _ => rfl) rfl (te_X4_init hl0 hd _ _ _ h)
theorem te_X4_clear {l : Launch} {g : ab_G} (hl0 : l.stackTraces = false) {d2 : Nat} (hd : 1 ≤ d2 + 1)   (l0 : Nat) (m0 : ab_Mm) (z : (Unit × ab_Mm)) (h : dd_X4_clear  l0 m0 = some z) : ab_W l g cX4_clear RX4 1 none [] false (d2 + 1) (.inl none) z.2 0 [(0, .ref l0)] [] m0 := by
  unfold dd_X4_clear at h
  refine ru_aload_n (i := 0) dX4_clear_0 rfl rfl <| ru_iconst dX4_clear_1 kc_i_0 <| ?_
  refine ru_putI h dX4_clear_2 lk_X4_20 ?_
  intro m1 h
  refine ru_aload_n (i := 0) dX4_clear_5 rfl rfl <| ru_iconst dX4_clear_6 kc_i_0 <| ?_
  refine ru_putI h dX4_clear_7 lk_X4_27 ?_
  intro m2 h
  cases h
  exact ru_ret (v := none) ⟨rfl, dX4_clear_10⟩
theorem tm_X4_clear {l : Launch} {g : ab_G} (hl0 : l.stackTraces = false) {d : Nat} (hd : 1 ≤ d) {l0 : Nat} {m : ab_Mm} {z : (Unit × ab_Mm)} (h : dd_X4_clear l0 m = some z) : ab_Met l g yX4_clear cX4_clear 1 none [] d [.ref l0] m (.inl none) z.2 := by
  obtain ⟨d2, rfl⟩ : ∃ d2, d = d2 + 1 := ⟨d - 1, by omega⟩
  exact ab_of hl0 (by decide +kernel) (Nat.le_of_ble_eq_true rfl) (fun q => by cases q) rfl (te_X4_clear hl0 hd _ _ _ h)
theorem tbb_X4_remember_90 {l : Launch} {g : ab_G} (hl0 : l.stackTraces = false) {d2 : Nat} (hd : 3 ≤ d2 + 1)    (m0 : ab_Mm) (z : (Unit × ab_Mm)) (h : bb_X4_remember_90   m0 = some z) : ab_W l g cX4_remember RX4 2 none [] false (d2 + 1) (.inl none) z.2 90 [] [] m0 := by
  unfold bb_X4_remember_90 at h
  cases h
  exact ru_ret (v := none) ⟨rfl, dX4_remember_90⟩
theorem tbb_X4_remember_69 {l : Launch} {g : ab_G} (hl0 : l.stackTraces = false) {d2 : Nat} (hd : 3 ≤ d2 + 1)   (l0 : Nat) (s0 : Nat) (s1 : Int32) (m0 : ab_Mm) (z : (Unit × ab_Mm)) (h : bb_X4_remember_69  l0 s0 s1 m0 = some z) : ab_W l g cX4_remember RX4 2 none [] false (d2 + 1) (.inl none) z.2 69 [(0, .ref l0)] [.int s1, .ref s0] m0 := by
  unfold bb_X4_remember_69 at h
  refine ru_putI h dX4_remember_69 lk_X4_24 ?_
  intro m1 h
  refine ru_aload_n (i := 0) dX4_remember_72 rfl rfl <| ru_aload_n (i := 0) dX4_remember_73 rfl rfl <| ?_
  refine ru_getI h dX4_remember_74 lk_X4_20 ?_
  intro v2 h
  refine ru_iconst dX4_remember_77 kc_i_1 <| ru_iadd dX4_remember_78 <| ru_aload_n (i := 0) dX4_remember_79 rfl rfl <| ?_
  refine ru_getR h dX4_remember_80 lk_X4_11 ?_
  intro v3 h
  refine ru_alen 4 h dX4_remember_83 ?_
  intro v4 h
  refine ru_mmin dX4_remember_84 ⟨pm_X4_35, pq_min_s, pq_ini, pq_min_c⟩ (Nat.le_of_ble_eq_true rfl) <| ?_
  refine ru_putI h dX4_remember_87 lk_X4_20 ?_
  intro m5 h
  exact ru_pick [] rfl (tbb_X4_remember_90 hl0 hd    _ _ h)
theorem te_X4_remember {l : Launch} {g : ab_G} (hl0 : l.stackTraces = false) {d2 : Nat} (hd : 3 ≤ d2 + 1)   (l0 : Nat) (l1 : Nat) (m0 : ab_Mm) (z : (Unit × ab_Mm)) (h : dd_X4_remember  l0 l1 m0 = some z) : ab_W l g cX4_remember RX4 2 none [] false (d2 + 1) (.inl none) z.2 0 [(0, .ref l0), (1, .ref l1)] [] m0 := by
  unfold dd_X4_remember at h
  refine ru_aload_n (i := 0) dX4_remember_0 rfl rfl <| ?_
  refine ru_getI h dX4_remember_1 lk_X4_24 ?_
  intro v1 h
  refine ru_if_lt (tgt := 90) dX4_remember_4 (by decide) (fun hc => ?_) (fun hc => ?_)
  · rw [if_pos hc] at h
    exact ru_pick [] rfl (tbb_X4_remember_90 hl0 hd    _ _ h)
  · rw [if_neg hc] at h
    refine ru_aload_n (i := 0) dX4_remember_7 rfl rfl <| ?_
    refine ru_getI h dX4_remember_8 lk_X4_24 ?_
    intro v2 h
    refine ru_aload_n (i := 0) dX4_remember_11 rfl rfl <| ?_
    refine ru_getR h dX4_remember_12 lk_X4_11 ?_
    intro v3 h
    refine ru_alen 4 h dX4_remember_15 ?_
    intro v4 h
    refine ru_icmp_ge (tgt := 90) dX4_remember_16 (by decide) (fun hc => ?_) (fun hc => ?_)
    · rw [if_pos hc] at h
      exact ru_pick [] rfl (tbb_X4_remember_90 hl0 hd    _ _ h)
    · rw [if_neg hc] at h
      refine ru_aload_n (i := 0) dX4_remember_19 rfl rfl <| ?_
      refine ru_getR h dX4_remember_20 lk_X4_11 ?_
      intro v5 h
      refine ru_aload_n (i := 0) dX4_remember_23 rfl rfl <| ?_
      refine ru_getI h dX4_remember_24 lk_X4_24 ?_
      intro v6 h
      refine ru_aaload h dX4_remember_27 ?_
      intro v7 h
      refine ru_ifnull dX4_remember_28 <| ru_aload_n (i := 0) dX4_remember_31 rfl rfl <| ?_
      refine ru_getR h dX4_remember_32 lk_X4_11 ?_
      intro v8 h
      refine ru_aload_n (i := 0) dX4_remember_35 rfl rfl <| ?_
      refine ru_getI h dX4_remember_36 lk_X4_24 ?_
      intro v9 h
      refine ru_aaload h dX4_remember_39 ?_
      intro v10 h
      refine ru_aload_n (i := 1) dX4_remember_40 rfl rfl <| ?_
      obtain ⟨_, hrc, h⟩ := Option.bind_eq_some_iff.mp h
      obtain ⟨q11, hq11, h⟩ := Option.bind_eq_some_iff.mp h
      refine ru_callV (tm_X8_copyFrom hl0 (by omega) hq11) dX4_remember_41 rfl pm_X4_31 mf_X8_copyFrom (ab_rcv_of hrc rfl) rfl rfl (Nat.le_of_ble_eq_true rfl) ?_
      refine ru_aload_n (i := 0) dX4_remember_44 rfl rfl <| ru_aload_n (i := 0) dX4_remember_45 rfl rfl <| ?_
      refine ru_getI h dX4_remember_46 lk_X4_24 ?_
      intro v12 h
      refine ru_iconst dX4_remember_49 kc_i_1 <| ru_iadd dX4_remember_50 <| ru_aload_n (i := 0) dX4_remember_51 rfl rfl <| ?_
      refine ru_getR h dX4_remember_52 lk_X4_11 ?_
      intro v13 h
      refine ru_alen 4 h dX4_remember_55 ?_
      intro v14 h
      refine ru_icmp_ge (tgt := 68) dX4_remember_56 (by decide) (fun hc => ?_) (fun hc => ?_)
      · rw [if_pos hc] at h
        refine ru_iconst dX4_remember_68 kc_i_0 <| ?_
        exact ru_pick [0] rfl (tbb_X4_remember_69 hl0 hd   _ _ _ _ _ h)
      · rw [if_neg hc] at h
        refine ru_aload_n (i := 0) dX4_remember_59 rfl rfl <| ?_
        refine ru_getI h dX4_remember_60 lk_X4_24 ?_
        intro v15 h
        refine ru_iconst dX4_remember_63 kc_i_1 <| ru_iadd dX4_remember_64 <| ru_goto (tgt := 69) dX4_remember_65 (by decide) <| ?_
        exact ru_pick [0] rfl (tbb_X4_remember_69 hl0 hd   _ _ _ _ _ h)
theorem tm_X4_remember {l : Launch} {g : ab_G} (hl0 : l.stackTraces = false) {d : Nat} (hd : 3 ≤ d) {l0 : Nat} {l1 : Nat} {m : ab_Mm} {z : (Unit × ab_Mm)} (h : dd_X4_remember l0 l1 m = some z) : ab_Met l g yX4_remember cX4_remember 2 none [] d [.ref l0, .ref l1] m (.inl none) z.2 := by
  obtain ⟨d2, rfl⟩ : ∃ d2, d = d2 + 1 := ⟨d - 1, by omega⟩
  exact ab_of hl0 (by decide +kernel) (Nat.le_of_ble_eq_true rfl) (fun q => by cases q) rfl (te_X4_remember hl0 hd _ _ _ _ h)
theorem tbb_X4_takeBack_53 {l : Launch} {g : ab_G} (hl0 : l.stackTraces = false) {d2 : Nat} (hd : 3 ≤ d2 + 1)    (m0 : ab_Mm) (z : (Int32 × ab_Mm)) (h : bb_X4_takeBack_53   m0 = some z) : ab_W l g cX4_takeBack RX4 3 (some .boolean) [] false (d2 + 1) (.inl (some (.int z.1))) z.2 53 [] [] m0 := by
  unfold bb_X4_takeBack_53 at h
  refine ru_iconst dX4_takeBack_53 kc_i_0 <| ?_
  cases h
  exact ru_ret (v := some (.int _)) ⟨_, rfl, ab_nz0, dX4_takeBack_54⟩
theorem tbb_X4_takeBack_23 {l : Launch} {g : ab_G} (hl0 : l.stackTraces = false) {d2 : Nat} (hd : 3 ≤ d2 + 1)   (l0 : Nat) (l1 : Nat) (s0 : Int32) (m0 : ab_Mm) (z : (Int32 × ab_Mm)) (h : bb_X4_takeBack_23  l0 l1 s0 m0 = some z) : ab_W l g cX4_takeBack RX4 3 (some .boolean) [] false (d2 + 1) (.inl (some (.int z.1))) z.2 23 [(0, .ref l0), (1, .ref l1)] [.int s0] m0 := by
  unfold bb_X4_takeBack_23 at h
  refine ru_istore_n (i := 2) dX4_takeBack_23 rfl (by decide) <| ru_aload_n (i := 0) dX4_takeBack_24 rfl rfl <| ?_
  refine ru_getI h dX4_takeBack_25 lk_X4_20 ?_
  intro v1 h
  refine ru_if_le (tgt := 53) dX4_takeBack_28 (by decide) (fun hc => ?_) (fun hc => ?_)
  · rw [if_pos hc] at h
    exact ru_pick [] rfl (tbb_X4_takeBack_53 hl0 hd    _ _ h)
  · rw [if_neg hc] at h
    refine ru_iload_n (i := 2) dX4_takeBack_31 rfl rfl <| ?_
    refine ru_if_lt (tgt := 53) dX4_takeBack_32 (by decide) (fun hc => ?_) (fun hc => ?_)
    · rw [if_pos hc] at h
      exact ru_pick [] rfl (tbb_X4_takeBack_53 hl0 hd    _ _ h)
    · rw [if_neg hc] at h
      refine ru_iload_n (i := 2) dX4_takeBack_35 rfl rfl <| ru_aload_n (i := 0) dX4_takeBack_36 rfl rfl <| ?_
      refine ru_getR h dX4_takeBack_37 lk_X4_11 ?_
      intro v2 h
      refine ru_alen 4 h dX4_takeBack_40 ?_
      intro v3 h
      refine ru_icmp_ge (tgt := 53) dX4_takeBack_41 (by decide) (fun hc => ?_) (fun hc => ?_)
      · rw [if_pos hc] at h
        exact ru_pick [] rfl (tbb_X4_takeBack_53 hl0 hd    _ _ h)
      · rw [if_neg hc] at h
        refine ru_aload_n (i := 0) dX4_takeBack_44 rfl rfl <| ?_
        refine ru_getR h dX4_takeBack_45 lk_X4_11 ?_
        intro v4 h
        refine ru_iload_n (i := 2) dX4_takeBack_48 rfl rfl <| ?_
        refine ru_aaload h dX4_takeBack_49 ?_
        intro v5 h
        refine ru_ifnonnull (tgt := 55) dX4_takeBack_50 (by decide) <| ?_
        refine ru_aload_n (i := 1) dX4_takeBack_55 rfl rfl <| ru_aload_n (i := 0) dX4_takeBack_56 rfl rfl <| ?_
        refine ru_getR h dX4_takeBack_57 lk_X4_11 ?_
        intro v6 h
        refine ru_iload_n (i := 2) dX4_takeBack_60 rfl rfl <| ?_
        refine ru_aaload h dX4_takeBack_61 ?_
        intro v7 h
        obtain ⟨_, hrc, h⟩ := Option.bind_eq_some_iff.mp h
        obtain ⟨q8, hq8, h⟩ := Option.bind_eq_some_iff.mp h
        refine ru_callV (tm_X8_copyFrom hl0 (by omega) hq8) dX4_takeBack_62 rfl pm_X4_31 mf_X8_copyFrom (ab_rcv_of hrc rfl) rfl rfl (Nat.le_of_ble_eq_true rfl) ?_
        refine ru_aload_n (i := 0) dX4_takeBack_65 rfl rfl <| ru_iload_n (i := 2) dX4_takeBack_66 rfl rfl <| ?_
        refine ru_putI h dX4_takeBack_67 lk_X4_24 ?_
        intro m9 h
        refine ru_aload_n (i := 0) dX4_takeBack_70 rfl rfl <| ru_dup dX4_takeBack_71 rfl <| ?_
        refine ru_getI h dX4_takeBack_72 lk_X4_20 ?_
        intro v10 h
        refine ru_iconst dX4_takeBack_75 kc_i_1 <| ru_isub dX4_takeBack_76 <| ?_
        refine ru_putI h dX4_takeBack_77 lk_X4_20 ?_
        intro m11 h
        refine ru_iconst dX4_takeBack_80 kc_i_1 <| ?_
        cases h
        exact ru_ret (v := some (.int _)) ⟨_, rfl, ab_nz1, dX4_takeBack_81⟩
theorem te_X4_takeBack {l : Launch} {g : ab_G} (hl0 : l.stackTraces = false) {d2 : Nat} (hd : 3 ≤ d2 + 1)   (l0 : Nat) (l1 : Nat) (m0 : ab_Mm) (z : (Int32 × ab_Mm)) (h : dd_X4_takeBack  l0 l1 m0 = some z) : ab_W l g cX4_takeBack RX4 3 (some .boolean) [] false (d2 + 1) (.inl (some (.int z.1))) z.2 0 [(0, .ref l0), (1, .ref l1)] [] m0 := by
  unfold dd_X4_takeBack at h
  refine ru_aload_n (i := 0) dX4_takeBack_0 rfl rfl <| ?_
  refine ru_getI h dX4_takeBack_1 lk_X4_24 ?_
  intro v1 h
  refine ru_if_le (tgt := 16) dX4_takeBack_4 (by decide) (fun hc => ?_) (fun hc => ?_)
  · rw [if_pos hc] at h
    refine ru_aload_n (i := 0) dX4_takeBack_16 rfl rfl <| ?_
    refine ru_getR h dX4_takeBack_17 lk_X4_11 ?_
    intro v2 h
    refine ru_alen 4 h dX4_takeBack_20 ?_
    intro v3 h
    refine ru_iconst dX4_takeBack_21 kc_i_1 <| ru_isub dX4_takeBack_22 <| ?_
    exact ru_pick [0, 1] rfl (tbb_X4_takeBack_23 hl0 hd   _ _ _ _ _ h)
  · rw [if_neg hc] at h
    refine ru_aload_n (i := 0) dX4_takeBack_7 rfl rfl <| ?_
    refine ru_getI h dX4_takeBack_8 lk_X4_24 ?_
    intro v4 h
    refine ru_iconst dX4_takeBack_11 kc_i_1 <| ru_isub dX4_takeBack_12 <| ru_goto (tgt := 23) dX4_takeBack_13 (by decide) <| ?_
    exact ru_pick [0, 1] rfl (tbb_X4_takeBack_23 hl0 hd   _ _ _ _ _ h)
theorem tm_X4_takeBack {l : Launch} {g : ab_G} (hl0 : l.stackTraces = false) {d : Nat} (hd : 3 ≤ d) {l0 : Nat} {l1 : Nat} {m : ab_Mm} {z : (Int32 × ab_Mm)} (h : dd_X4_takeBack l0 l1 m = some z) : ab_Met l g yX4_takeBack cX4_takeBack 3 (some .boolean) [] d [.ref l0, .ref l1] m (.inl (some (.int z.1))) z.2 := by
  obtain ⟨d2, rfl⟩ : ∃ d2, d = d2 + 1 := ⟨d - 1, by omega⟩
  exact ab_of hl0 (by decide +kernel) (Nat.le_of_ble_eq_true rfl) (fun q => by cases q) rfl (te_X4_takeBack hl0 hd _ _ _ _ h)
theorem tbb_X4_isSaved_29 {l : Launch} {g : ab_G} (hl0 : l.stackTraces = false) {d2 : Nat} (hd : 1 ≤ d2 + 1)   (s0 : Int32) (m0 : ab_Mm) (z : (Int32 × ab_Mm)) (h : bb_X4_isSaved_29  s0 m0 = some z) : ab_W l g cX4_isSaved RX4 2 (some .boolean) [] false (d2 + 1) (.inl (some (.int z.1))) z.2 29 [] [.int s0] m0 := by
  unfold bb_X4_isSaved_29 at h
  rcases ab_iff h with ⟨hc, h⟩ | ⟨hc, h⟩
  · cases h
  cases h
  exact ru_ret (v := some (.int _)) ⟨_, rfl, congrArg Value.int (Classical.not_not.mp hc), dX4_isSaved_29⟩
theorem tbb_X4_isSaved_28 {l : Launch} {g : ab_G} (hl0 : l.stackTraces = false) {d2 : Nat} (hd : 1 ≤ d2 + 1)    (m0 : ab_Mm) (z : (Int32 × ab_Mm)) (h : bb_X4_isSaved_28   m0 = some z) : ab_W l g cX4_isSaved RX4 2 (some .boolean) [] false (d2 + 1) (.inl (some (.int z.1))) z.2 28 [] [] m0 := by
  unfold bb_X4_isSaved_28 at h
  refine ru_iconst dX4_isSaved_28 kc_i_0 <| ?_
  exact ru_pick [] rfl (tbb_X4_isSaved_29 hl0 hd   _ _ _ h)
theorem te_X4_isSaved {l : Launch} {g : ab_G} (hl0 : l.stackTraces = false) {d2 : Nat} (hd : 1 ≤ d2 + 1)   (l0 : Nat) (l1 : Int32) (m0 : ab_Mm) (z : (Int32 × ab_Mm)) (h : dd_X4_isSaved  l0 l1 m0 = some z) : ab_W l g cX4_isSaved RX4 2 (some .boolean) [] false (d2 + 1) (.inl (some (.int z.1))) z.2 0 [(0, .ref l0), (1, .int l1)] [] m0 := by
  unfold dd_X4_isSaved at h
  refine ru_iload_n (i := 1) dX4_isSaved_0 rfl rfl <| ?_
  refine ru_if_lt (tgt := 28) dX4_isSaved_1 (by decide) (fun hc => ?_) (fun hc => ?_)
  · rw [if_pos hc] at h
    exact ru_pick [] rfl (tbb_X4_isSaved_28 hl0 hd    _ _ h)
  · rw [if_neg hc] at h
    refine ru_iload_n (i := 1) dX4_isSaved_4 rfl rfl <| ru_aload_n (i := 0) dX4_isSaved_5 rfl rfl <| ?_
    refine ru_getR h dX4_isSaved_6 lk_X4_17 ?_
    intro v1 h
    refine ru_alen 4 h dX4_isSaved_9 ?_
    intro v2 h
    refine ru_icmp_ge (tgt := 28) dX4_isSaved_10 (by decide) (fun hc => ?_) (fun hc => ?_)
    · rw [if_pos hc] at h
      exact ru_pick [] rfl (tbb_X4_isSaved_28 hl0 hd    _ _ h)
    · rw [if_neg hc] at h
      refine ru_aload_n (i := 0) dX4_isSaved_13 rfl rfl <| ?_
      refine ru_getI h dX4_isSaved_14 lk_X4_27 ?_
      intro v3 h
      refine ru_iload_n (i := 1) dX4_isSaved_17 rfl rfl <| ru_ishr dX4_isSaved_18 <| ru_iconst dX4_isSaved_19 kc_i_1 <| ru_iand dX4_isSaved_20 <| ?_
      refine ru_if_eq (tgt := 28) dX4_isSaved_21 (by decide) (fun hc => ?_) (fun hc => ?_)
      · rw [if_pos hc] at h
        exact ru_pick [] rfl (tbb_X4_isSaved_28 hl0 hd    _ _ h)
      · rw [if_neg hc] at h
        refine ru_iconst dX4_isSaved_24 kc_i_1 <| ru_goto (tgt := 29) dX4_isSaved_25 (by decide) <| ?_
        exact ru_pick [] rfl (tbb_X4_isSaved_29 hl0 hd   _ _ _ h)
theorem tm_X4_isSaved {l : Launch} {g : ab_G} (hl0 : l.stackTraces = false) {d : Nat} (hd : 1 ≤ d) {l0 : Nat} {l1 : Int32} {m : ab_Mm} {z : (Int32 × ab_Mm)} (h : dd_X4_isSaved l0 l1 m = some z) : ab_Met l g yX4_isSaved cX4_isSaved 2 (some .boolean) [] d [.ref l0, .int l1] m (.inl (some (.int z.1))) z.2 := by
  obtain ⟨d2, rfl⟩ : ∃ d2, d = d2 + 1 := ⟨d - 1, by omega⟩
  exact ab_of hl0 (by decide +kernel) (Nat.le_of_ble_eq_true rfl) (fun q => by cases q) rfl (te_X4_isSaved hl0 hd _ _ _ _ h)
theorem tbb_X4_save_44 {l : Launch} {g : ab_G} (hl0 : l.stackTraces = false) {d2 : Nat} (hd : 3 ≤ d2 + 1)    (m0 : ab_Mm) (z : (Unit × ab_Mm)) (h : bb_X4_save_44   m0 = some z) : ab_W l g cX4_save RX4 3 none [] false (d2 + 1) (.inl none) z.2 44 [] [] m0 := by
  unfold bb_X4_save_44 at h
  cases h
  exact ru_ret (v := none) ⟨rfl, dX4_save_44⟩
theorem te_X4_save {l : Launch} {g : ab_G} (hl0 : l.stackTraces = false) {d2 : Nat} (hd : 3 ≤ d2 + 1)   (l0 : Nat) (l1 : Int32) (l2 : Nat) (m0 : ab_Mm) (z : (Unit × ab_Mm)) (h : dd_X4_save  l0 l1 l2 m0 = some z) : ab_W l g cX4_save RX4 3 none [] false (d2 + 1) (.inl none) z.2 0 [(0, .ref l0), (1, .int l1), (2, .ref l2)] [] m0 := by
  unfold dd_X4_save at h
  refine ru_iload_n (i := 1) dX4_save_0 rfl rfl <| ?_
  refine ru_if_lt (tgt := 44) dX4_save_1 (by decide) (fun hc => ?_) (fun hc => ?_)
  · rw [if_pos hc] at h
    exact ru_pick [] rfl (tbb_X4_save_44 hl0 hd    _ _ h)
  · rw [if_neg hc] at h
    refine ru_iload_n (i := 1) dX4_save_4 rfl rfl <| ru_aload_n (i := 0) dX4_save_5 rfl rfl <| ?_
    refine ru_getR h dX4_save_6 lk_X4_17 ?_
    intro v1 h
    refine ru_alen 4 h dX4_save_9 ?_
    intro v2 h
    refine ru_icmp_ge (tgt := 44) dX4_save_10 (by decide) (fun hc => ?_) (fun hc => ?_)
    · rw [if_pos hc] at h
      exact ru_pick [] rfl (tbb_X4_save_44 hl0 hd    _ _ h)
    · rw [if_neg hc] at h
      refine ru_aload_n (i := 0) dX4_save_13 rfl rfl <| ?_
      refine ru_getR h dX4_save_14 lk_X4_17 ?_
      intro v3 h
      refine ru_iload_n (i := 1) dX4_save_17 rfl rfl <| ?_
      refine ru_aaload h dX4_save_18 ?_
      intro v4 h
      refine ru_ifnull dX4_save_19 <| ru_aload_n (i := 0) dX4_save_22 rfl rfl <| ?_
      refine ru_getR h dX4_save_23 lk_X4_17 ?_
      intro v5 h
      refine ru_iload_n (i := 1) dX4_save_26 rfl rfl <| ?_
      refine ru_aaload h dX4_save_27 ?_
      intro v6 h
      refine ru_aload_n (i := 2) dX4_save_28 rfl rfl <| ?_
      obtain ⟨_, hrc, h⟩ := Option.bind_eq_some_iff.mp h
      obtain ⟨q7, hq7, h⟩ := Option.bind_eq_some_iff.mp h
      refine ru_callV (tm_X8_copyFrom hl0 (by omega) hq7) dX4_save_29 rfl pm_X4_31 mf_X8_copyFrom (ab_rcv_of hrc rfl) rfl rfl (Nat.le_of_ble_eq_true rfl) ?_
      refine ru_aload_n (i := 0) dX4_save_32 rfl rfl <| ru_dup dX4_save_33 rfl <| ?_
      refine ru_getI h dX4_save_34 lk_X4_27 ?_
      intro v8 h
      refine ru_iconst dX4_save_37 kc_i_1 <| ru_iload_n (i := 1) dX4_save_38 rfl rfl <| ru_ishl dX4_save_39 <| ru_ior dX4_save_40 <| ?_
      refine ru_putI h dX4_save_41 lk_X4_27 ?_
      intro m9 h
      exact ru_pick [] rfl (tbb_X4_save_44 hl0 hd    _ _ h)
theorem tm_X4_save {l : Launch} {g : ab_G} (hl0 : l.stackTraces = false) {d : Nat} (hd : 3 ≤ d) {l0 : Nat} {l1 : Int32} {l2 : Nat} {m : ab_Mm} {z : (Unit × ab_Mm)} (h : dd_X4_save l0 l1 l2 m = some z) : ab_Met l g yX4_save cX4_save 3 none [] d [.ref l0, .int l1, .ref l2] m (.inl none) z.2 := by
  obtain ⟨d2, rfl⟩ : ∃ d2, d = d2 + 1 := ⟨d - 1, by omega⟩
  exact ab_of hl0 (by decide +kernel) (Nat.le_of_ble_eq_true rfl) (fun q => by cases q) rfl (te_X4_save hl0 hd _ _ _ _ _ h)
theorem tbb_X4_restore_45 {l : Launch} {g : ab_G} (hl0 : l.stackTraces = false) {d2 : Nat} (hd : 3 ≤ d2 + 1)    (m0 : ab_Mm) (z : (Unit × ab_Mm)) (h : bb_X4_restore_45   m0 = some z) : ab_W l g cX4_restore RX4 3 none [] false (d2 + 1) (.inl none) z.2 45 [] [] m0 := by
  unfold bb_X4_restore_45 at h
  cases h
  exact ru_ret (v := none) ⟨rfl, dX4_restore_45⟩
theorem te_X4_restore {l : Launch} {g : ab_G} (hl0 : l.stackTraces = false) {d2 : Nat} (hd : 3 ≤ d2 + 1)   (l0 : Nat) (l1 : Int32) (l2 : Nat) (m0 : ab_Mm) (z : (Unit × ab_Mm)) (h : dd_X4_restore  l0 l1 l2 m0 = some z) : ab_W l g cX4_restore RX4 3 none [] false (d2 + 1) (.inl none) z.2 0 [(0, .ref l0), (1, .int l1), (2, .ref l2)] [] m0 := by
  unfold dd_X4_restore at h
  refine ru_aload_n (i := 0) dX4_restore_0 rfl rfl <| ru_iload_n (i := 1) dX4_restore_1 rfl rfl <| ?_
  obtain ⟨_, hrc, h⟩ := Option.bind_eq_some_iff.mp h
  obtain ⟨q1, hq1, h⟩ := Option.bind_eq_some_iff.mp h
  refine ru_callV (tm_X4_isSaved hl0 (by omega) hq1) dX4_restore_2 rfl pm_X4_41 mf_X4_isSaved (ab_rcv_of hrc rfl) rfl rfl (Nat.le_of_ble_eq_true rfl) ?_
  refine ru_if_eq (tgt := 45) dX4_restore_5 (by decide) (fun hc => ?_) (fun hc => ?_)
  · rw [if_pos hc] at h
    exact ru_pick [] rfl (tbb_X4_restore_45 hl0 hd    _ _ h)
  · rw [if_neg hc] at h
    refine ru_iload_n (i := 1) dX4_restore_8 rfl rfl <| ?_
    refine ru_if_lt (tgt := 45) dX4_restore_9 (by decide) (fun hc => ?_) (fun hc => ?_)
    · rw [if_pos hc] at h
      exact ru_pick [] rfl (tbb_X4_restore_45 hl0 hd    _ _ h)
    · rw [if_neg hc] at h
      refine ru_iload_n (i := 1) dX4_restore_12 rfl rfl <| ru_aload_n (i := 0) dX4_restore_13 rfl rfl <| ?_
      refine ru_getR h dX4_restore_14 lk_X4_17 ?_
      intro v2 h
      refine ru_alen 4 h dX4_restore_17 ?_
      intro v3 h
      refine ru_icmp_ge (tgt := 45) dX4_restore_18 (by decide) (fun hc => ?_) (fun hc => ?_)
      · rw [if_pos hc] at h
        exact ru_pick [] rfl (tbb_X4_restore_45 hl0 hd    _ _ h)
      · rw [if_neg hc] at h
        refine ru_aload_n (i := 0) dX4_restore_21 rfl rfl <| ?_
        refine ru_getR h dX4_restore_22 lk_X4_17 ?_
        intro v4 h
        refine ru_iload_n (i := 1) dX4_restore_25 rfl rfl <| ?_
        refine ru_aaload h dX4_restore_26 ?_
        intro v5 h
        refine ru_ifnull dX4_restore_27 <| ru_aload_n (i := 2) dX4_restore_30 rfl rfl <| ru_aload_n (i := 0) dX4_restore_31 rfl rfl <| ?_
        refine ru_getR h dX4_restore_32 lk_X4_17 ?_
        intro v6 h
        refine ru_iload_n (i := 1) dX4_restore_35 rfl rfl <| ?_
        refine ru_aaload h dX4_restore_36 ?_
        intro v7 h
        obtain ⟨_, hrc, h⟩ := Option.bind_eq_some_iff.mp h
        obtain ⟨q8, hq8, h⟩ := Option.bind_eq_some_iff.mp h
        refine ru_callV (tm_X8_copyFrom hl0 (by omega) hq8) dX4_restore_37 rfl pm_X4_31 mf_X8_copyFrom (ab_rcv_of hrc rfl) rfl rfl (Nat.le_of_ble_eq_true rfl) ?_
        refine ru_aload_n (i := 0) dX4_restore_40 rfl rfl <| ru_iconst dX4_restore_41 kc_i_0 <| ?_
        refine ru_putI h dX4_restore_42 lk_X4_20 ?_
        intro m9 h
        exact ru_pick [] rfl (tbb_X4_restore_45 hl0 hd    _ _ h)
theorem tm_X4_restore {l : Launch} {g : ab_G} (hl0 : l.stackTraces = false) {d : Nat} (hd : 3 ≤ d) {l0 : Nat} {l1 : Int32} {l2 : Nat} {m : ab_Mm} {z : (Unit × ab_Mm)} (h : dd_X4_restore l0 l1 l2 m = some z) : ab_Met l g yX4_restore cX4_restore 3 none [] d [.ref l0, .int l1, .ref l2] m (.inl none) z.2 := by
  obtain ⟨d2, rfl⟩ : ∃ d2, d = d2 + 1 := ⟨d - 1, by omega⟩
  exact ab_of hl0 (by decide +kernel) (Nat.le_of_ble_eq_true rfl) (fun q => by cases q) rfl (te_X4_restore hl0 hd _ _ _ _ _ h)
theorem te_X5_init {l : Launch} {g : ab_G} (hl0 : l.stackTraces = false) {d2 : Nat} (hd : 1 ≤ d2 + 1)   (l0 : Nat) (m0 : ab_Mm) (z : (Unit × ab_Mm)) (h : dd_X5_init  l0 m0 = some z) : ab_W l g cX5_init RX5 1 none [] true (d2 + 1) (.inl none) z.2 0 [(0, .ref l0)] [] m0 := by
  unfold dd_X5_init at h
  refine ru_aload_n (i := 0) dX5_init_0 rfl rfl <| ru_objInit dX5_init_1 ⟨pm_X5_3, po_inst, po_code⟩ (Nat.le_of_ble_eq_true rfl) <| ru_aload_n (i := 0) dX5_init_4 rfl rfl <| ru_bipush dX5_init_5 kc_b_6 <| ?_
  refine ru_newI h dX5_init_7 fa_int ?_
  intro q1 h
  refine ru_putR h dX5_init_9 lk_X5_9 (fun _ => ⟨rfl, rfl⟩) rfl (fun q hq => by cases hq; rfl) (fun q hq => by cases hq; exact pf_X5_9) ?_
  intro m2 h
  refine ru_aload_n (i := 0) dX5_init_12 rfl rfl <| ru_bipush dX5_init_13 kc_b_6 <| ?_
  refine ru_newI h dX5_init_15 fa_int ?_
  intro q3 h
  refine ru_putR h dX5_init_17 lk_X5_15 (fun _ => ⟨rfl, rfl⟩) rfl (fun q hq => by cases hq; rfl) (fun q hq => by cases hq; exact pf_X5_15) ?_
  intro m4 h
  refine ru_aload_n (i := 0) dX5_init_20 rfl rfl <| ru_iconst dX5_init_21 kc_i_0 <| ?_
  refine ru_putI h dX5_init_22 lk_X5_18 ?_
  intro m5 h
  cases h
  exact ru_ret (v := none) ⟨rfl, dX5_init_25⟩
theorem tm_X5_init {l : Launch} {g : ab_G} (hl0 : l.stackTraces = false) {d : Nat} (hd : 1 ≤ d) {l0 : Nat} {m : ab_Mm} {z : (Unit × ab_Mm)} (h : dd_X5_init l0 m = some z) : ab_Met l g yX5_init cX5_init 1 none [] d [.ref l0] m (.inl none) z.2 := by
  obtain ⟨d2, rfl⟩ : ∃ d2, d = d2 + 1 := ⟨d - 1, by omega⟩
  exact ab_of hl0 (by decide +kernel) (Nat.le_of_ble_eq_true rfl) (fun _ => rfl) rfl (te_X5_init hl0 hd _ _ _ h)
