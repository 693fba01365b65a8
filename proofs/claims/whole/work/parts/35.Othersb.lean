/-! ===== the methods keep to these functions (by program) ===== -/
theorem te_X2_carryOut {l : Launch} {g : ab_G} (hl0 : l.stackTraces = false) {d2 : Nat} (hd : 6 ≤ d2 + 1)   (l0 : Nat) (l1 : Nat) (l2 : Nat) (m0 : ab_Mm) (z : (Unit × ab_Mm)) (h : dd_X2_carryOut  l0 l1 l2 m0 = some z) : ab_W l g cX2_carryOut RX2 4 none [] false (d2 + 1) (.inl none) z.2 0 [(0, .ref l0), (1, .ref l1), (2, .ref l2)] [] m0 := by
  unfold dd_X2_carryOut at h
  refine ru_iconst dX2_carryOut_0 kc_i_0 <| ru_istore_n (i := 3) dX2_carryOut_1 rfl (by decide) <| ?_
  exact ru_pick [0, 1, 2, 3] rfl (tbb_X2_carryOut_2 hl0 hd   _ _ _ _ _ _ _ h)
theorem tm_X2_carryOut {l : Launch} {g : ab_G} (hl0 : l.stackTraces = false) {d : Nat} (hd : 6 ≤ d) {l0 : Nat} {l1 : Nat} {l2 : Nat} {m : ab_Mm} {z : (Unit × ab_Mm)} (h : dd_X2_carryOut l0 l1 l2 m = some z) : ab_Met l g yX2_carryOut cX2_carryOut 4 none [] d [.ref l0, .ref l1, .ref l2] m (.inl none) z.2 := by
  obtain ⟨d2, rfl⟩ : ∃ d2, d = d2 + 1 := ⟨d - 1, by omega⟩
  exact ab_of hl0 (by decide +kernel) (Nat.le_of_ble_eq_true rfl) (fun q => by cases q) rfl (te_X2_carryOut hl0 hd _ _ _ _ _ h)
theorem te_X3_init {l : Launch} {g : ab_G} (hl0 : l.stackTraces = false) {d2 : Nat} (hd : 1 ≤ d2 + 1)   (l0 : Nat) (m0 : ab_Mm) (z : (Unit × ab_Mm)) (h : dd_X3_init  l0 m0 = some z) : ab_W l g cX3_init RX3 1 none [] true (d2 + 1) (.inl none) z.2 0 [(0, .ref l0)] [] m0 := by
  unfold dd_X3_init at h
  refine ru_aload_n (i := 0) dX3_init_0 rfl rfl <| ru_objInit dX3_init_1 ⟨pm_X3_3, po_inst, po_code⟩ (Nat.le_of_ble_eq_true rfl) <| ru_aload_n (i := 0) dX3_init_4 rfl rfl <| ru_bipush dX3_init_5 kc_b_12 <| ?_
  refine ru_newI h dX3_init_7 fa_int ?_
  intro q1 h
  refine ru_putR h dX3_init_9 lk_X3_9 (fun _ => ⟨rfl, rfl⟩) rfl (fun q hq => by cases hq; rfl) (fun q hq => by cases hq; exact pf_X3_9) ?_
  intro m2 h
  refine ru_aload_n (i := 0) dX3_init_12 rfl rfl <| ru_iconst dX3_init_13 kc_i_0 <| ?_
  refine ru_putI h dX3_init_14 lk_X3_15 ?_
  intro m3 h
  refine ru_aload_n (i := 0) dX3_init_17 rfl rfl <| ru_iconst dX3_init_18 kc_i_m1 <| ?_
  refine ru_putI h dX3_init_19 lk_X3_19 ?_
  intro m4 h
  refine ru_aload_n (i := 0) dX3_init_22 rfl rfl <| ru_iconst dX3_init_23 kc_i_0 <| ?_
  refine ru_putI h dX3_init_24 lk_X3_22 ?_
  intro m5 h
  cases h
  exact ru_ret (v := none) ⟨rfl, dX3_init_27⟩
theorem tm_X3_init {l : Launch} {g : ab_G} (hl0 : l.stackTraces = false) {d : Nat} (hd : 1 ≤ d) {l0 : Nat} {m : ab_Mm} {z : (Unit × ab_Mm)} (h : dd_X3_init l0 m = some z) : ab_Met l g yX3_init cX3_init 1 none [] d [.ref l0] m (.inl none) z.2 := by
  obtain ⟨d2, rfl⟩ : ∃ d2, d = d2 + 1 := ⟨d - 1, by omega⟩
  exact ab_of hl0 (by decide +kernel) (Nat.le_of_ble_eq_true rfl) (fun _ => rfl) rfl (te_X3_init hl0 hd _ _ _ h)
theorem tbb_X3_keep_55 {l : Launch} {g : ab_G} (hl0 : l.stackTraces = false) {d2 : Nat} (hd : 2 ≤ d2 + 1)    (m0 : ab_Mm) (z : (Unit × ab_Mm)) (h : bb_X3_keep_55   m0 = some z) : ab_W l g cX3_keep RX3 4 none [] false (d2 + 1) (.inl none) z.2 55 [] [] m0 := by
  unfold bb_X3_keep_55 at h
  cases h
  exact ru_ret (v := none) ⟨rfl, dX3_keep_55⟩
theorem tbb_X3_keep_45 {l : Launch} {g : ab_G} (hl0 : l.stackTraces = false) {d2 : Nat} (hd : 2 ≤ d2 + 1)   (l0 : Nat) (l1 : Int32) (l2 : Int32) (m0 : ab_Mm) (z : (Unit × ab_Mm)) (h : bb_X3_keep_45  l0 l1 l2 m0 = some z) : ab_W l g cX3_keep RX3 4 none [] false (d2 + 1) (.inl none) z.2 45 [(0, .ref l0), (1, .int l1), (2, .int l2)] [] m0 := by
  unfold bb_X3_keep_45 at h
  refine ru_aload_n (i := 0) dX3_keep_45 rfl rfl <| ru_iload_n (i := 1) dX3_keep_46 rfl rfl <| ?_
  refine ru_putI h dX3_keep_47 lk_X3_19 ?_
  intro m1 h
  refine ru_aload_n (i := 0) dX3_keep_50 rfl rfl <| ru_iload_n (i := 2) dX3_keep_51 rfl rfl <| ?_
  refine ru_putI h dX3_keep_52 lk_X3_22 ?_
  intro m2 h
  exact ru_pick [] rfl (tbb_X3_keep_55 hl0 hd    _ _ h)
theorem te_X3_keep {l : Launch} {g : ab_G} (hl0 : l.stackTraces = false) {d2 : Nat} (hd : 2 ≤ d2 + 1)   (l0 : Nat) (l1 : Int32) (l2 : Int32) (m0 : ab_Mm) (z : (Unit × ab_Mm)) (h : dd_X3_keep  l0 l1 l2 m0 = some z) : ab_W l g cX3_keep RX3 4 none [] false (d2 + 1) (.inl none) z.2 0 [(0, .ref l0), (1, .int l1), (2, .int l2)] [] m0 := by
  unfold dd_X3_keep at h
  refine ru_aload_n (i := 0) dX3_keep_0 rfl rfl <| ?_
  refine ru_getI h dX3_keep_1 lk_X3_19 ?_
  intro v1 h
  obtain ⟨q2, hq2, h⟩ := Option.bind_eq_some_iff.mp h
  refine ru_callS (tm_J6_bitCount_0f7a4 hl0 (by omega) hq2) dX3_keep_4 rfl pm_X3_59 mf_J6_bitCount_0f7a4 rfl rfl (Nat.le_of_ble_eq_true rfl) ?_
  refine ru_iload_n (i := 1) dX3_keep_7 rfl rfl <| ?_
  obtain ⟨q3, hq3, h⟩ := Option.bind_eq_some_iff.mp h
  refine ru_callS (tm_J6_bitCount_0f7a4 hl0 (by omega) hq3) dX3_keep_8 rfl pm_X3_59 mf_J6_bitCount_0f7a4 rfl rfl (Nat.le_of_ble_eq_true rfl) ?_
  refine ru_isub dX3_keep_11 <| ru_istore_n (i := 3) dX3_keep_12 rfl (by decide) <| ru_aload_n (i := 0) dX3_keep_13 rfl rfl <| ?_
  refine ru_getI h dX3_keep_14 lk_X3_19 ?_
  intro v4 h
  refine ru_iconst dX3_keep_17 kc_i_m1 <| ?_
  refine ru_icmp_eq (tgt := 45) dX3_keep_18 (by decide) (fun hc => ?_) (fun hc => ?_)
  · rw [if_pos hc] at h
    exact ru_pick [0, 1, 2] rfl (tbb_X3_keep_45 hl0 hd   _ _ _ _ _ h)
  · rw [if_neg hc] at h
    refine ru_iload_n (i := 2) dX3_keep_21 rfl rfl <| ru_aload_n (i := 0) dX3_keep_22 rfl rfl <| ?_
    refine ru_getI h dX3_keep_23 lk_X3_22 ?_
    intro v5 h
    refine ru_icmp_lt (tgt := 45) dX3_keep_26 (by decide) (fun hc => ?_) (fun hc => ?_)
    · rw [if_pos hc] at h
      exact ru_pick [0, 1, 2] rfl (tbb_X3_keep_45 hl0 hd   _ _ _ _ _ h)
    · rw [if_neg hc] at h
      refine ru_iload_n (i := 3) dX3_keep_29 rfl rfl <| ?_
      refine ru_if_gt (tgt := 45) dX3_keep_30 (by decide) (fun hc => ?_) (fun hc => ?_)
      · rw [if_pos hc] at h
        exact ru_pick [0, 1, 2] rfl (tbb_X3_keep_45 hl0 hd   _ _ _ _ _ h)
      · rw [if_neg hc] at h
        refine ru_iload_n (i := 3) dX3_keep_33 rfl rfl <| ?_
        refine ru_if_ne (tgt := 55) dX3_keep_34 (by decide) (fun hc => ?_) (fun hc => ?_)
        · rw [if_neg hc] at h
          exact ru_pick [] rfl (tbb_X3_keep_55 hl0 hd    _ _ h)
        · rw [if_pos hc] at h
          refine ru_iload_n (i := 1) dX3_keep_37 rfl rfl <| ru_aload_n (i := 0) dX3_keep_38 rfl rfl <| ?_
          refine ru_getI h dX3_keep_39 lk_X3_19 ?_
          intro v6 h
          refine ru_icmp_ge (tgt := 55) dX3_keep_42 (by decide) (fun hc => ?_) (fun hc => ?_)
          · rw [if_pos hc] at h
            exact ru_pick [] rfl (tbb_X3_keep_55 hl0 hd    _ _ h)
          · rw [if_neg hc] at h
            exact ru_pick [0, 1, 2] rfl (tbb_X3_keep_45 hl0 hd   _ _ _ _ _ h)
theorem tm_X3_keep {l : Launch} {g : ab_G} (hl0 : l.stackTraces = false) {d : Nat} (hd : 2 ≤ d) {l0 : Nat} {l1 : Int32} {l2 : Int32} {m : ab_Mm} {z : (Unit × ab_Mm)} (h : dd_X3_keep l0 l1 l2 m = some z) : ab_Met l g yX3_keep cX3_keep 4 none [] d [.ref l0, .int l1, .int l2] m (.inl none) z.2 := by
  obtain ⟨d2, rfl⟩ : ∃ d2, d = d2 + 1 := ⟨d - 1, by omega⟩
  exact ab_of hl0 (by decide +kernel) (Nat.le_of_ble_eq_true rfl) (fun q => by cases q) rfl (te_X3_keep hl0 hd _ _ _ _ _ h)
theorem tbb_X3_choose_50 {l : Launch} {g : ab_G} (hl0 : l.stackTraces = false) {d2 : Nat} (hd : 3 ≤ d2 + 1) (c_X3_choose : Nat → Nat → Nat → Int32 → Int32 → Int32 → Int32 → Int32 → ab_Mm → Option (Unit × ab_Mm)) (hc_X3_choose : ∀ (a0 : Nat) (a1 : Nat) (a2 : Nat) (a3 : Int32) (a4 : Int32) (a5 : Int32) (a6 : Int32) (a7 : Int32) (m : ab_Mm) (z : (Unit × ab_Mm)), c_X3_choose a0 a1 a2 a3 a4 a5 a6 a7 m = some z → ab_Met l g yX3_choose cX3_choose 10 none [] d2 [.ref a0, .ref a1, .ref a2, .int a3, .int a4, .int a5, .int a6, .int a7] m (.inl none) z.2)  (m0 : ab_Mm) (z : (Unit × ab_Mm)) (h : bb_X3_choose_50 c_X3_choose  m0 = some z) : ab_W l g cX3_choose RX3 10 none [] false (d2 + 1) (.inl none) z.2 50 [] [] m0 := by
  unfold bb_X3_choose_50 at h
  cases h
  exact ru_ret (v := none) ⟨rfl, dX3_choose_50⟩
theorem tbb_X3_choose_29 {l : Launch} {g : ab_G} (hl0 : l.stackTraces = false) {d2 : Nat} (hd : 3 ≤ d2 + 1) (c_X3_choose : Nat → Nat → Nat → Int32 → Int32 → Int32 → Int32 → Int32 → ab_Mm → Option (Unit × ab_Mm)) (hc_X3_choose : ∀ (a0 : Nat) (a1 : Nat) (a2 : Nat) (a3 : Int32) (a4 : Int32) (a5 : Int32) (a6 : Int32) (a7 : Int32) (m : ab_Mm) (z : (Unit × ab_Mm)), c_X3_choose a0 a1 a2 a3 a4 a5 a6 a7 m = some z → ab_Met l g yX3_choose cX3_choose 10 none [] d2 [.ref a0, .ref a1, .ref a2, .int a3, .int a4, .int a5, .int a6, .int a7] m (.inl none) z.2) (l0 : Nat) (l1 : Nat) (l2 : Nat) (l3 : Int32) (l4 : Int32) (l5 : Int32) (l6 : Int32) (l7 : Int32) (m0 : ab_Mm) (z : (Unit × ab_Mm)) (h : bb_X3_choose_29 c_X3_choose l0 l1 l2 l3 l4 l5 l6 l7 m0 = some z) : ab_W l g cX3_choose RX3 10 none [] false (d2 + 1) (.inl none) z.2 29 [(0, .ref l0), (1, .ref l1), (2, .ref l2), (3, .int l3), (4, .int l4), (5, .int l5), (6, .int l6), (7, .int l7)] [] m0 := by
  unfold bb_X3_choose_29 at h
  refine ru_iload_n (i := 3) dX3_choose_29 rfl rfl <| ?_
  refine ru_if_lt (tgt := 50) dX3_choose_30 (by decide) (fun hc => ?_) (fun hc => ?_)
  · rw [if_pos hc] at h
    exact ru_pick [] rfl (tbb_X3_choose_50 hl0 hd _ hc_X3_choose  _ _ h)
  · rw [if_neg hc] at h
    refine ru_iload_n (i := 3) dX3_choose_33 rfl rfl <| ru_aload_n (i := 0) dX3_choose_34 rfl rfl <| ?_
    refine ru_getI h dX3_choose_35 lk_X3_15 ?_
    intro v1 h
    refine ru_icmp_ge (tgt := 50) dX3_choose_38 (by decide) (fun hc => ?_) (fun hc => ?_)
    · rw [if_pos hc] at h
      exact ru_pick [] rfl (tbb_X3_choose_50 hl0 hd _ hc_X3_choose  _ _ h)
    · rw [if_neg hc] at h
      refine ru_iload_n (i := 3) dX3_choose_41 rfl rfl <| ru_aload_n (i := 0) dX3_choose_42 rfl rfl <| ?_
      refine ru_getR h dX3_choose_43 lk_X3_9 ?_
      intro v2 h
      refine ru_alen 0 h dX3_choose_46 ?_
      intro v3 h
      refine ru_icmp_lt (tgt := 51) dX3_choose_47 (by decide) (fun hc => ?_) (fun hc => ?_)
      · rw [if_pos hc] at h
        refine ru_aload_n (i := 0) dX3_choose_51 rfl rfl <| ?_
        refine ru_getR h dX3_choose_52 lk_X3_9 ?_
        intro v4 h
        refine ru_iload_n (i := 3) dX3_choose_55 rfl rfl <| ?_
        refine ru_iaload h dX3_choose_56 ?_
        intro v5 h
        refine ru_istore dX3_choose_57 (by decide) <| ru_aload_n (i := 2) dX3_choose_59 rfl rfl <| ?_
        refine ru_getR h dX3_choose_60 lk_X3_32 ?_
        intro v6 h
        refine ru_iload dX3_choose_63 rfl <| ru_iconst dX3_choose_65 kc_i_1 <| ?_
        obtain ⟨_, hrc, h⟩ := Option.bind_eq_some_iff.mp h
        obtain ⟨q7, hq7, h⟩ := Option.bind_eq_some_iff.mp h
        refine ru_callV (tm_X10_get hl0 (by omega) hq7) dX3_choose_66 rfl pm_X3_36 mf_X10_get (ab_rcv_of hrc rfl) rfl rfl (Nat.le_of_ble_eq_true rfl) ?_
        refine ru_istore dX3_choose_69 (by decide) <| ru_aload_n (i := 0) dX3_choose_71 rfl rfl <| ru_aload_n (i := 1) dX3_choose_72 rfl rfl <| ru_aload_n (i := 2) dX3_choose_73 rfl rfl <| ru_iload_n (i := 3) dX3_choose_74 rfl rfl <| ru_iconst dX3_choose_75 kc_i_1 <| ru_iadd dX3_choose_76 <| ru_iload dX3_choose_77 rfl <| ru_iconst dX3_choose_79 kc_i_1 <| ru_iload dX3_choose_80 rfl <| ?_
        refine ru_ishl dX3_choose_82 <| ru_ior dX3_choose_83 <| ru_iload dX3_choose_84 rfl <| ru_aload_n (i := 1) dX3_choose_86 rfl rfl <| ?_
        refine ru_getR h dX3_choose_87 lk_X3_42 ?_
        intro v8 h
        refine ru_iload dX3_choose_90 rfl <| ru_iconst dX3_choose_92 kc_i_0 <| ?_
        obtain ⟨_, hrc, h⟩ := Option.bind_eq_some_iff.mp h
        obtain ⟨q9, hq9, h⟩ := Option.bind_eq_some_iff.mp h
        refine ru_callV (tm_X10_get hl0 (by omega) hq9) dX3_choose_93 rfl pm_X3_36 mf_X10_get (ab_rcv_of hrc rfl) rfl rfl (Nat.le_of_ble_eq_true rfl) ?_
        refine ru_isub dX3_choose_96 <| ru_iload dX3_choose_97 rfl <| ru_aload_n (i := 1) dX3_choose_99 rfl rfl <| ?_
        refine ru_getR h dX3_choose_100 lk_X3_42 ?_
        intro v10 h
        refine ru_iload dX3_choose_103 rfl <| ru_iconst dX3_choose_105 kc_i_1 <| ?_
        obtain ⟨_, hrc, h⟩ := Option.bind_eq_some_iff.mp h
        obtain ⟨q11, hq11, h⟩ := Option.bind_eq_some_iff.mp h
        refine ru_callV (tm_X10_get hl0 (by omega) hq11) dX3_choose_106 rfl pm_X3_36 mf_X10_get (ab_rcv_of hrc rfl) rfl rfl (Nat.le_of_ble_eq_true rfl) ?_
        refine ru_isub dX3_choose_109 <| ru_iload dX3_choose_110 rfl <| ru_aload_n (i := 2) dX3_choose_112 rfl rfl <| ?_
        refine ru_getR h dX3_choose_113 lk_X3_32 ?_
        intro v12 h
        refine ru_iload dX3_choose_116 rfl <| ru_iconst dX3_choose_118 kc_i_2 <| ?_
        obtain ⟨_, hrc, h⟩ := Option.bind_eq_some_iff.mp h
        obtain ⟨q13, hq13, h⟩ := Option.bind_eq_some_iff.mp h
        refine ru_callV (tm_X10_get hl0 (by omega) hq13) dX3_choose_119 rfl pm_X3_36 mf_X10_get (ab_rcv_of hrc rfl) rfl rfl (Nat.le_of_ble_eq_true rfl) ?_
        refine ru_iadd dX3_choose_122 <| ?_
        obtain ⟨_, hrc, h⟩ := Option.bind_eq_some_iff.mp h
        obtain ⟨q14, hq14, h⟩ := Option.bind_eq_some_iff.mp h
        refine ru_callV (hc_X3_choose _ _ _ _ _ _ _ _ _ _ hq14) dX3_choose_123 rfl pm_X3_51 mf_X3_choose (ab_rcv_of hrc rfl) rfl rfl (Nat.le_of_ble_eq_true rfl) ?_
        refine ru_aload_n (i := 0) dX3_choose_126 rfl rfl <| ru_aload_n (i := 1) dX3_choose_127 rfl rfl <| ru_aload_n (i := 2) dX3_choose_128 rfl rfl <| ru_iload_n (i := 3) dX3_choose_129 rfl rfl <| ru_iconst dX3_choose_130 kc_i_1 <| ru_iadd dX3_choose_131 <| ru_iload dX3_choose_132 rfl <| ru_iload dX3_choose_134 rfl <| ru_iload dX3_choose_136 rfl <| ru_iload dX3_choose_138 rfl <| ?_
        obtain ⟨_, hrc, h⟩ := Option.bind_eq_some_iff.mp h
        obtain ⟨q15, hq15, h⟩ := Option.bind_eq_some_iff.mp h
        refine ru_callV (hc_X3_choose _ _ _ _ _ _ _ _ _ _ hq15) dX3_choose_140 rfl pm_X3_51 mf_X3_choose (ab_rcv_of hrc rfl) rfl rfl (Nat.le_of_ble_eq_true rfl) ?_
        cases h
        exact ru_ret (v := none) ⟨rfl, dX3_choose_143⟩
      · rw [if_neg hc] at h
        exact ru_pick [] rfl (tbb_X3_choose_50 hl0 hd _ hc_X3_choose  _ _ h)
theorem te_X3_choose {l : Launch} {g : ab_G} (hl0 : l.stackTraces = false) {d2 : Nat} (hd : 3 ≤ d2 + 1) (c_X3_choose : Nat → Nat → Nat → Int32 → Int32 → Int32 → Int32 → Int32 → ab_Mm → Option (Unit × ab_Mm)) (hc_X3_choose : ∀ (a0 : Nat) (a1 : Nat) (a2 : Nat) (a3 : Int32) (a4 : Int32) (a5 : Int32) (a6 : Int32) (a7 : Int32) (m : ab_Mm) (z : (Unit × ab_Mm)), c_X3_choose a0 a1 a2 a3 a4 a5 a6 a7 m = some z → ab_Met l g yX3_choose cX3_choose 10 none [] d2 [.ref a0, .ref a1, .ref a2, .int a3, .int a4, .int a5, .int a6, .int a7] m (.inl none) z.2) (l0 : Nat) (l1 : Nat) (l2 : Nat) (l3 : Int32) (l4 : Int32) (l5 : Int32) (l6 : Int32) (l7 : Int32) (m0 : ab_Mm) (z : (Unit × ab_Mm)) (h : st_X3_choose c_X3_choose l0 l1 l2 l3 l4 l5 l6 l7 m0 = some z) : ab_W l g cX3_choose RX3 10 none [] false (d2 + 1) (.inl none) z.2 0 [(0, .ref l0), (1, .ref l1), (2, .ref l2), (3, .int l3), (4, .int l4), (5, .int l5), (6, .int l6), (7, .int l7)] [] m0 := by
  unfold st_X3_choose at h
  refine ru_iload dX3_choose_0 rfl <| ru_aload_n (i := 0) dX3_choose_2 rfl rfl <| ?_
  refine ru_getI h dX3_choose_3 lk_X3_22 ?_
  intro v1 h
  refine ru_icmp_le (tgt := 10) dX3_choose_6 (by decide) (fun hc => ?_) (fun hc => ?_)
  · rw [if_pos hc] at h
    refine ru_iload dX3_choose_10 rfl <| ?_
    refine ru_if_gt (tgt := 29) dX3_choose_12 (by decide) (fun hc => ?_) (fun hc => ?_)
    · rw [if_pos hc] at h
      exact ru_pick [0, 1, 2, 3, 4, 5, 6, 7] rfl (tbb_X3_choose_29 hl0 hd _ hc_X3_choose _ _ _ _ _ _ _ _ _ _ h)
    · rw [if_neg hc] at h
      refine ru_iload dX3_choose_15 rfl <| ?_
      refine ru_if_gt (tgt := 29) dX3_choose_17 (by decide) (fun hc => ?_) (fun hc => ?_)
      · rw [if_pos hc] at h
        exact ru_pick [0, 1, 2, 3, 4, 5, 6, 7] rfl (tbb_X3_choose_29 hl0 hd _ hc_X3_choose _ _ _ _ _ _ _ _ _ _ h)
      · rw [if_neg hc] at h
        refine ru_aload_n (i := 0) dX3_choose_20 rfl rfl <| ru_iload dX3_choose_21 rfl <| ru_iload dX3_choose_23 rfl <| ?_
        obtain ⟨_, hrc, h⟩ := Option.bind_eq_some_iff.mp h
        obtain ⟨q2, hq2, h⟩ := Option.bind_eq_some_iff.mp h
        refine ru_callV (tm_X3_keep hl0 (by omega) hq2) dX3_choose_25 rfl pm_X3_55 mf_X3_keep (ab_rcv_of hrc rfl) rfl rfl (Nat.le_of_ble_eq_true rfl) ?_
        cases h
        exact ru_ret (v := none) ⟨rfl, dX3_choose_28⟩
  · rw [if_neg hc] at h
    cases h
    exact ru_ret (v := none) ⟨rfl, dX3_choose_9⟩
theorem tg_X3_choose {l : Launch} {g : ab_G} (hl0 : l.stackTraces = false) : ∀ n : Nat, (∀ d, n + 3 ≤ d → ∀ (a0 : Nat) (a1 : Nat) (a2 : Nat) (a3 : Int32) (a4 : Int32) (a5 : Int32) (a6 : Int32) (a7 : Int32) (m : ab_Mm) (z : (Unit × ab_Mm)), dd_X3_choose n a0 a1 a2 a3 a4 a5 a6 a7 m = some z → ab_Met l g yX3_choose cX3_choose 10 none [] d [.ref a0, .ref a1, .ref a2, .int a3, .int a4, .int a5, .int a6, .int a7] m (.inl none) z.2) ∧ True := by
  intro n
  induction n with
  | zero => exact ⟨fun d hd _ _ _ _ _ _ _ _ m z h => (by cases h), trivial⟩
  | succ n ih =>
    refine ⟨?_, trivial⟩
    · intro d hd a0 a1 a2 a3 a4 a5 a6 a7 m z h
      obtain ⟨d2, rfl⟩ : ∃ d2, d = d2 + 1 := ⟨d - 1, by omega⟩
      exact ab_of hl0 (by decide +kernel) (Nat.le_of_ble_eq_true rfl) (fun q => by cases q) rfl (te_X3_choose hl0 (by omega) _ (fun b0 b1 b2 b3 b4 b5 b6 b7 m z h => ih.1 d2 (by omega) b0 b1 b2 b3 b4 b5 b6 b7 m z h) _ _ _ _ _ _ _ _ _ _ h)
theorem tm_X3_choose {l : Launch} {g : ab_G} (hl0 : l.stackTraces = false) {d : Nat} (hd : 33 ≤ d) {a0 : Nat} {a1 : Nat} {a2 : Nat} {a3 : Int32} {a4 : Int32} {a5 : Int32} {a6 : Int32} {a7 : Int32} {m : ab_Mm} {z : (Unit × ab_Mm)} (h : dd_X3_choose 30 a0 a1 a2 a3 a4 a5 a6 a7 m = some z) : ab_Met l g yX3_choose cX3_choose 10 none [] d [.ref a0, .ref a1, .ref a2, .int a3, .int a4, .int a5, .int a6, .int a7] m (.inl none) z.2 := (tg_X3_choose hl0 30).1 d (by omega) a0 a1 a2 a3 a4 a5 a6 a7 m z h
theorem tbb_X3_cheapest_115 {l : Launch} {g : ab_G} (hl0 : l.stackTraces = false) {d2 : Nat} (hd : 34 ≤ d2 + 1) (r19 : Nat → Nat → Nat → Int32 → Int32 → Int32 → ab_Mm → Option (Int32 × ab_Mm)) (hr19 : ∀ (l0 : Nat) (l1 : Nat) (l2 : Nat) (l3 : Int32) (l4 : Int32) (l5 : Int32) (m : ab_Mm) (z : (Int32 × ab_Mm)), r19 l0 l1 l2 l3 l4 l5 m = some z → ab_W l g cX3_cheapest RX3 7 (some .int) [] false (d2 + 1) (.inl (some (.int z.1))) z.2 19 [(0, .ref l0), (1, .ref l1), (2, .ref l2), (3, .int l3), (4, .int l4), (5, .int l5)] [] m) (l0 : Nat) (l1 : Nat) (l2 : Nat) (l3 : Int32) (l4 : Int32) (l5 : Int32) (m0 : ab_Mm) (z : (Int32 × ab_Mm)) (h : bb_X3_cheapest_115 r19 l0 l1 l2 l3 l4 l5 m0 = some z) : ab_W l g cX3_cheapest RX3 7 (some .int) [] false (d2 + 1) (.inl (some (.int z.1))) z.2 115 [(0, .ref l0), (1, .ref l1), (2, .ref l2), (3, .int l3), (4, .int l4), (5, .int l5)] [] m0 := by
  unfold bb_X3_cheapest_115 at h
  refine ru_iinc dX3_cheapest_115 (by decide) rfl (ab_inc kc_i_1) <| ru_goto (tgt := 19) dX3_cheapest_118 (by decide) <| ?_
  exact ru_pick [0, 1, 2, 3, 4, 5] rfl (hr19 _ _ _ _ _ _ _ _ h)
theorem tbb_X3_cheapest_54 {l : Launch} {g : ab_G} (hl0 : l.stackTraces = false) {d2 : Nat} (hd : 34 ≤ d2 + 1) (r19 : Nat → Nat → Nat → Int32 → Int32 → Int32 → ab_Mm → Option (Int32 × ab_Mm)) (hr19 : ∀ (l0 : Nat) (l1 : Nat) (l2 : Nat) (l3 : Int32) (l4 : Int32) (l5 : Int32) (m : ab_Mm) (z : (Int32 × ab_Mm)), r19 l0 l1 l2 l3 l4 l5 m = some z → ab_W l g cX3_cheapest RX3 7 (some .int) [] false (d2 + 1) (.inl (some (.int z.1))) z.2 19 [(0, .ref l0), (1, .ref l1), (2, .ref l2), (3, .int l3), (4, .int l4), (5, .int l5)] [] m) (l0 : Nat) (l1 : Nat) (l2 : Nat) (l3 : Int32) (l4 : Int32) (l5 : Int32) (s0 : Int32) (m0 : ab_Mm) (z : (Int32 × ab_Mm)) (h : bb_X3_cheapest_54 r19 l0 l1 l2 l3 l4 l5 s0 m0 = some z) : ab_W l g cX3_cheapest RX3 7 (some .int) [] false (d2 + 1) (.inl (some (.int z.1))) z.2 54 [(0, .ref l0), (1, .ref l1), (2, .ref l2), (3, .int l3), (4, .int l4), (5, .int l5)] [.int s0] m0 := by
  unfold bb_X3_cheapest_54 at h
  refine ru_istore dX3_cheapest_54 (by decide) <| ru_iload dX3_cheapest_56 rfl <| ?_
  refine ru_if_eq (tgt := 115) dX3_cheapest_58 (by decide) (fun hc => ?_) (fun hc => ?_)
  · rw [if_pos hc] at h
    exact ru_pick [0, 1, 2, 3, 4, 5] rfl (tbb_X3_cheapest_115 hl0 hd _ hr19 _ _ _ _ _ _ _ _ h)
  · rw [if_neg hc] at h
    refine ru_aload_n (i := 2) dX3_cheapest_61 rfl rfl <| ?_
    refine ru_getR h dX3_cheapest_62 lk_X3_32 ?_
    intro v1 h
    refine ru_iload dX3_cheapest_65 rfl <| ru_iconst dX3_cheapest_67 kc_i_2 <| ?_
    obtain ⟨_, hrc, h⟩ := Option.bind_eq_some_iff.mp h
    obtain ⟨q2, hq2, h⟩ := Option.bind_eq_some_iff.mp h
    refine ru_callV (tm_X10_get hl0 (by omega) hq2) dX3_cheapest_68 rfl pm_X3_36 mf_X10_get (ab_rcv_of hrc rfl) rfl rfl (Nat.le_of_ble_eq_true rfl) ?_
    refine ru_iconst dX3_cheapest_71 kc_i_m1 <| ?_
    refine ru_icmp_eq (tgt := 115) dX3_cheapest_72 (by decide) (fun hc => ?_) (fun hc => ?_)
    · rw [if_pos hc] at h
      exact ru_pick [0, 1, 2, 3, 4, 5] rfl (tbb_X3_cheapest_115 hl0 hd _ hr19 _ _ _ _ _ _ _ _ h)
    · rw [if_neg hc] at h
      refine ru_aload_n (i := 0) dX3_cheapest_75 rfl rfl <| ?_
      refine ru_getI h dX3_cheapest_76 lk_X3_15 ?_
      intro v3 h
      refine ru_if_lt (tgt := 115) dX3_cheapest_79 (by decide) (fun hc => ?_) (fun hc => ?_)
      · rw [if_pos hc] at h
        exact ru_pick [0, 1, 2, 3, 4, 5] rfl (tbb_X3_cheapest_115 hl0 hd _ hr19 _ _ _ _ _ _ _ _ h)
      · rw [if_neg hc] at h
        refine ru_aload_n (i := 0) dX3_cheapest_82 rfl rfl <| ?_
        refine ru_getI h dX3_cheapest_83 lk_X3_15 ?_
        intro v4 h
        refine ru_aload_n (i := 0) dX3_cheapest_86 rfl rfl <| ?_
        refine ru_getR h dX3_cheapest_87 lk_X3_9 ?_
        intro v5 h
        refine ru_alen 0 h dX3_cheapest_90 ?_
        intro v6 h
        refine ru_icmp_ge (tgt := 115) dX3_cheapest_91 (by decide) (fun hc => ?_) (fun hc => ?_)
        · rw [if_pos hc] at h
          exact ru_pick [0, 1, 2, 3, 4, 5] rfl (tbb_X3_cheapest_115 hl0 hd _ hr19 _ _ _ _ _ _ _ _ h)
        · rw [if_neg hc] at h
          refine ru_aload_n (i := 0) dX3_cheapest_94 rfl rfl <| ?_
          refine ru_getR h dX3_cheapest_95 lk_X3_9 ?_
          intro v7 h
          refine ru_aload_n (i := 0) dX3_cheapest_98 rfl rfl <| ?_
          refine ru_getI h dX3_cheapest_99 lk_X3_15 ?_
          intro v8 h
          refine ru_iload dX3_cheapest_102 rfl <| ?_
          refine ru_iastore h dX3_cheapest_104 ?_
          intro m9 h
          refine ru_aload_n (i := 0) dX3_cheapest_105 rfl rfl <| ru_dup dX3_cheapest_106 rfl <| ?_
          refine ru_getI h dX3_cheapest_107 lk_X3_15 ?_
          intro v10 h
          refine ru_iconst dX3_cheapest_110 kc_i_1 <| ru_iadd dX3_cheapest_111 <| ?_
          refine ru_putI h dX3_cheapest_112 lk_X3_15 ?_
          intro m11 h
          exact ru_pick [0, 1, 2, 3, 4, 5] rfl (tbb_X3_cheapest_115 hl0 hd _ hr19 _ _ _ _ _ _ _ _ h)
theorem tbb_X3_cheapest_53 {l : Launch} {g : ab_G} (hl0 : l.stackTraces = false) {d2 : Nat} (hd : 34 ≤ d2 + 1) (r19 : Nat → Nat → Nat → Int32 → Int32 → Int32 → ab_Mm → Option (Int32 × ab_Mm)) (hr19 : ∀ (l0 : Nat) (l1 : Nat) (l2 : Nat) (l3 : Int32) (l4 : Int32) (l5 : Int32) (m : ab_Mm) (z : (Int32 × ab_Mm)), r19 l0 l1 l2 l3 l4 l5 m = some z → ab_W l g cX3_cheapest RX3 7 (some .int) [] false (d2 + 1) (.inl (some (.int z.1))) z.2 19 [(0, .ref l0), (1, .ref l1), (2, .ref l2), (3, .int l3), (4, .int l4), (5, .int l5)] [] m) (l0 : Nat) (l1 : Nat) (l2 : Nat) (l3 : Int32) (l4 : Int32) (l5 : Int32) (m0 : ab_Mm) (z : (Int32 × ab_Mm)) (h : bb_X3_cheapest_53 r19 l0 l1 l2 l3 l4 l5 m0 = some z) : ab_W l g cX3_cheapest RX3 7 (some .int) [] false (d2 + 1) (.inl (some (.int z.1))) z.2 53 [(0, .ref l0), (1, .ref l1), (2, .ref l2), (3, .int l3), (4, .int l4), (5, .int l5)] [] m0 := by
  unfold bb_X3_cheapest_53 at h
  refine ru_iconst dX3_cheapest_53 kc_i_0 <| ?_
  exact ru_pick [0, 1, 2, 3, 4, 5] rfl (tbb_X3_cheapest_54 hl0 hd _ hr19 _ _ _ _ _ _ _ _ _ h)
theorem tbb_X3_cheapest_19 {l : Launch} {g : ab_G} (hl0 : l.stackTraces = false) {d2 : Nat} (hd : 34 ≤ d2 + 1)   : ∀ (n : Nat) (l0 : Nat) (l1 : Nat) (l2 : Nat) (l3 : Int32) (l4 : Int32) (l5 : Int32) (m0 : ab_Mm) (z : (Int32 × ab_Mm)), bb_X3_cheapest_19  n l0 l1 l2 l3 l4 l5 m0 = some z → ab_W l g cX3_cheapest RX3 7 (some .int) [] false (d2 + 1) (.inl (some (.int z.1))) z.2 19 [(0, .ref l0), (1, .ref l1), (2, .ref l2), (3, .int l3), (4, .int l4), (5, .int l5)] [] m0 := by
  intro n
  induction n with
  | zero => intro l0 l1 l2 l3 l4 l5 m0 z h; cases h
  | succ n ih =>
    intro l0 l1 l2 l3 l4 l5 m0 z h
    rw [bb_X3_cheapest_19] at h
    refine ru_iload dX3_cheapest_19 rfl <| ru_bipush dX3_cheapest_21 kc_b_12 <| ?_
    refine ru_icmp_ge (tgt := 121) dX3_cheapest_23 (by decide) (fun hc => ?_) (fun hc => ?_)
    · rw [if_pos hc] at h
      refine ru_aload_n (i := 1) dX3_cheapest_121 rfl rfl <| ?_
      refine ru_getR h dX3_cheapest_122 lk_X3_42 ?_
      intro v1 h
      refine ru_iload dX3_cheapest_125 rfl <| ru_iconst dX3_cheapest_127 kc_i_0 <| ?_
      obtain ⟨_, hrc, h⟩ := Option.bind_eq_some_iff.mp h
      obtain ⟨q2, hq2, h⟩ := Option.bind_eq_some_iff.mp h
      refine ru_callV (tm_X10_get hl0 (by omega) hq2) dX3_cheapest_128 rfl pm_X3_36 mf_X10_get (ab_rcv_of hrc rfl) rfl rfl (Nat.le_of_ble_eq_true rfl) ?_
      refine ru_aload_n (i := 2) dX3_cheapest_131 rfl rfl <| ru_aload_n (i := 1) dX3_cheapest_132 rfl rfl <| ru_iload_n (i := 3) dX3_cheapest_133 rfl rfl <| ru_iconst dX3_cheapest_134 kc_i_0 <| ?_
      obtain ⟨_, hrc, h⟩ := Option.bind_eq_some_iff.mp h
      obtain ⟨q3, hq3, h⟩ := Option.bind_eq_some_iff.mp h
      refine ru_callV (tm_X8_left hl0 (by omega) hq3) dX3_cheapest_135 rfl pm_X3_47 mf_X8_left (ab_rcv_of hrc rfl) rfl rfl (Nat.le_of_ble_eq_true rfl) ?_
      refine ru_isub dX3_cheapest_138 <| ru_istore dX3_cheapest_139 (by decide) <| ru_aload_n (i := 1) dX3_cheapest_141 rfl rfl <| ?_
      refine ru_getR h dX3_cheapest_142 lk_X3_42 ?_
      intro v4 h
      refine ru_iload dX3_cheapest_145 rfl <| ru_iconst dX3_cheapest_147 kc_i_1 <| ?_
      obtain ⟨_, hrc, h⟩ := Option.bind_eq_some_iff.mp h
      obtain ⟨q5, hq5, h⟩ := Option.bind_eq_some_iff.mp h
      refine ru_callV (tm_X10_get hl0 (by omega) hq5) dX3_cheapest_148 rfl pm_X3_36 mf_X10_get (ab_rcv_of hrc rfl) rfl rfl (Nat.le_of_ble_eq_true rfl) ?_
      refine ru_aload_n (i := 2) dX3_cheapest_151 rfl rfl <| ru_aload_n (i := 1) dX3_cheapest_152 rfl rfl <| ru_iload_n (i := 3) dX3_cheapest_153 rfl rfl <| ru_iconst dX3_cheapest_154 kc_i_1 <| ?_
      obtain ⟨_, hrc, h⟩ := Option.bind_eq_some_iff.mp h
      obtain ⟨q6, hq6, h⟩ := Option.bind_eq_some_iff.mp h
      refine ru_callV (tm_X8_left hl0 (by omega) hq6) dX3_cheapest_155 rfl pm_X3_47 mf_X8_left (ab_rcv_of hrc rfl) rfl rfl (Nat.le_of_ble_eq_true rfl) ?_
      refine ru_isub dX3_cheapest_158 <| ru_istore dX3_cheapest_159 (by decide) <| ru_aload_n (i := 0) dX3_cheapest_161 rfl rfl <| ru_aload_n (i := 1) dX3_cheapest_162 rfl rfl <| ru_aload_n (i := 2) dX3_cheapest_163 rfl rfl <| ru_iconst dX3_cheapest_164 kc_i_0 <| ru_iconst dX3_cheapest_165 kc_i_0 <| ru_iload dX3_cheapest_166 rfl <| ru_iload dX3_cheapest_168 rfl <| ru_iconst dX3_cheapest_170 kc_i_0 <| ?_
      obtain ⟨_, hrc, h⟩ := Option.bind_eq_some_iff.mp h
      obtain ⟨q7, hq7, h⟩ := Option.bind_eq_some_iff.mp h
      refine ru_callV (tm_X3_choose hl0 (by omega) hq7) dX3_cheapest_171 rfl pm_X3_51 mf_X3_choose (ab_rcv_of hrc rfl) rfl rfl (Nat.le_of_ble_eq_true rfl) ?_
      refine ru_aload_n (i := 0) dX3_cheapest_174 rfl rfl <| ?_
      refine ru_getI h dX3_cheapest_175 lk_X3_19 ?_
      intro v8 h
      cases h
      exact ru_ret (v := some (.int _)) ⟨_, rfl, rfl, dX3_cheapest_178⟩
    · rw [if_neg hc] at h
      refine ru_aload_n (i := 2) dX3_cheapest_26 rfl rfl <| ru_iload dX3_cheapest_27 rfl <| ?_
      obtain ⟨_, hrc, h⟩ := Option.bind_eq_some_iff.mp h
      obtain ⟨q9, hq9, h⟩ := Option.bind_eq_some_iff.mp h
      refine ru_callV (tm_X8_runs hl0 (by omega) hq9) dX3_cheapest_29 rfl pm_X3_26 mf_X8_runs (ab_rcv_of hrc rfl) rfl rfl (Nat.le_of_ble_eq_true rfl) ?_
      refine ru_if_eq (tgt := 53) dX3_cheapest_32 (by decide) (fun hc => ?_) (fun hc => ?_)
      · rw [if_pos hc] at h
        exact ru_pick [0, 1, 2, 3, 4, 5] rfl (tbb_X3_cheapest_53 hl0 hd _ ih _ _ _ _ _ _ _ _ h)
      · rw [if_neg hc] at h
        refine ru_aload_n (i := 2) dX3_cheapest_35 rfl rfl <| ?_
        refine ru_getR h dX3_cheapest_36 lk_X3_32 ?_
        intro v10 h
        refine ru_iload dX3_cheapest_39 rfl <| ru_iconst dX3_cheapest_41 kc_i_3 <| ?_
        obtain ⟨_, hrc, h⟩ := Option.bind_eq_some_iff.mp h
        obtain ⟨q11, hq11, h⟩ := Option.bind_eq_some_iff.mp h
        refine ru_callV (tm_X10_get hl0 (by omega) hq11) dX3_cheapest_42 rfl pm_X3_36 mf_X10_get (ab_rcv_of hrc rfl) rfl rfl (Nat.le_of_ble_eq_true rfl) ?_
        refine ru_iload_n (i := 3) dX3_cheapest_45 rfl rfl <| ?_
        refine ru_icmp_ne (tgt := 53) dX3_cheapest_46 (by decide) (fun hc => ?_) (fun hc => ?_)
        · rw [if_neg hc] at h
          exact ru_pick [0, 1, 2, 3, 4, 5] rfl (tbb_X3_cheapest_53 hl0 hd _ ih _ _ _ _ _ _ _ _ h)
        · rw [if_pos hc] at h
          refine ru_iconst dX3_cheapest_49 kc_i_1 <| ru_goto (tgt := 54) dX3_cheapest_50 (by decide) <| ?_
          exact ru_pick [0, 1, 2, 3, 4, 5] rfl (tbb_X3_cheapest_54 hl0 hd _ ih _ _ _ _ _ _ _ _ _ h)
theorem te_X3_cheapest {l : Launch} {g : ab_G} (hl0 : l.stackTraces = false) {d2 : Nat} (hd : 34 ≤ d2 + 1)   (l0 : Nat) (l1 : Nat) (l2 : Nat) (l3 : Int32) (l4 : Int32) (m0 : ab_Mm) (z : (Int32 × ab_Mm)) (h : dd_X3_cheapest  l0 l1 l2 l3 l4 m0 = some z) : ab_W l g cX3_cheapest RX3 7 (some .int) [] false (d2 + 1) (.inl (some (.int z.1))) z.2 0 [(0, .ref l0), (1, .ref l1), (2, .ref l2), (3, .int l3), (4, .int l4)] [] m0 := by
  unfold dd_X3_cheapest at h
  refine ru_aload_n (i := 0) dX3_cheapest_0 rfl rfl <| ru_iconst dX3_cheapest_1 kc_i_0 <| ?_
  refine ru_putI h dX3_cheapest_2 lk_X3_15 ?_
  intro m1 h
  refine ru_aload_n (i := 0) dX3_cheapest_5 rfl rfl <| ru_iconst dX3_cheapest_6 kc_i_m1 <| ?_
  refine ru_putI h dX3_cheapest_7 lk_X3_19 ?_
  intro m2 h
  refine ru_aload_n (i := 0) dX3_cheapest_10 rfl rfl <| ru_ldc dX3_cheapest_11 pk_X3_25 <| ?_
  refine ru_putI h dX3_cheapest_13 lk_X3_22 ?_
  intro m3 h
  refine ru_iconst dX3_cheapest_16 kc_i_0 <| ru_istore dX3_cheapest_17 (by decide) <| ?_
  exact ru_pick [0, 1, 2, 3, 4, 5] rfl (tbb_X3_cheapest_19 hl0 hd   _ _ _ _ _ _ _ _ _ h)
theorem tm_X3_cheapest {l : Launch} {g : ab_G} (hl0 : l.stackTraces = false) {d : Nat} (hd : 34 ≤ d) {l0 : Nat} {l1 : Nat} {l2 : Nat} {l3 : Int32} {l4 : Int32} {m : ab_Mm} {z : (Int32 × ab_Mm)} (h : dd_X3_cheapest l0 l1 l2 l3 l4 m = some z) : ab_Met l g yX3_cheapest cX3_cheapest 7 (some .int) [] d [.ref l0, .ref l1, .ref l2, .int l3, .int l4] m (.inl (some (.int z.1))) z.2 := by
  obtain ⟨d2, rfl⟩ : ∃ d2, d = d2 + 1 := ⟨d - 1, by omega⟩
  exact ab_of hl0 (by decide +kernel) (Nat.le_of_ble_eq_true rfl) (fun q => by cases q) rfl (te_X3_cheapest hl0 hd _ _ _ _ _ _ _ h)
theorem tbb_X4_init_68 {l : Launch} {g : ab_G} (hl0 : l.stackTraces = false) {d2 : Nat} (hd : 3 ≤ d2 + 1)   : ∀ (n : Nat) (l0 : Nat) (l1 : Int32) (m0 : ab_Mm) (z : (Unit × ab_Mm)), bb_X4_init_68  n l0 l1 m0 = some z → ab_W l g cX4_init RX4 2 none [] true (d2 + 1) (.inl none) z.2 68 [(0, .ref l0), (1, .int l1)] [] m0 := by
  intro n
  induction n with
  | zero => intro l0 l1 m0 z h; cases h
  | succ n ih =>
    intro l0 l1 m0 z h
    rw [bb_X4_init_68] at h
    refine ru_iload_n (i := 1) dX4_init_68 rfl rfl <| ru_aload_n (i := 0) dX4_init_69 rfl rfl <| ?_
    refine ru_getR h dX4_init_70 lk_X4_17 ?_
    intro v1 h
    refine ru_alen 4 h dX4_init_73 ?_
    intro v2 h
    refine ru_icmp_ge (tgt := 96) dX4_init_74 (by decide) (fun hc => ?_) (fun hc => ?_)
    · rw [if_pos hc] at h
      cases h
      exact ru_ret (v := none) ⟨rfl, dX4_init_96⟩
    · rw [if_neg hc] at h
      refine ru_aload_n (i := 0) dX4_init_77 rfl rfl <| ?_
      refine ru_getR h dX4_init_78 lk_X4_17 ?_
      intro v3 h
      refine ru_iload_n (i := 1) dX4_init_81 rfl rfl <| ?_
      refine ru_new h dX4_init_82 nw_X4_9 ?_
      intro q4 h
      refine ru_dup dX4_init_85 rfl <| ?_
      obtain ⟨q5, hq5, h⟩ := Option.bind_eq_some_iff.mp h
      refine ru_callI rfl (tm_X8_init hl0 (by omega) hq5) dX4_init_86 rfl (Or.inr pn_X4_30) mf_X8_init rfl rfl (Nat.le_of_ble_eq_true rfl) ?_
      refine ru_aastore h dX4_init_89 ?_
      intro m6 h
      refine ru_iinc dX4_init_90 (by decide) rfl (ab_inc kc_i_1) <| ru_goto (tgt := 68) dX4_init_93 (by decide) <| ?_
      exact ru_pick [0, 1] rfl (ih _ _ _ _ h)
theorem tbb_X4_init_38 {l : Launch} {g : ab_G} (hl0 : l.stackTraces = false) {d2 : Nat} (hd : 3 ≤ d2 + 1)   : ∀ (n : Nat) (l0 : Nat) (l1 : Int32) (m0 : ab_Mm) (z : (Unit × ab_Mm)), bb_X4_init_38  n l0 l1 m0 = some z → ab_W l g cX4_init RX4 2 none [] true (d2 + 1) (.inl none) z.2 38 [(0, .ref l0), (1, .int l1)] [] m0 := by
  intro n
  induction n with
  | zero => intro l0 l1 m0 z h; cases h
  | succ n ih =>
    intro l0 l1 m0 z h
    rw [bb_X4_init_38] at h
    refine ru_iload_n (i := 1) dX4_init_38 rfl rfl <| ru_aload_n (i := 0) dX4_init_39 rfl rfl <| ?_
    refine ru_getR h dX4_init_40 lk_X4_11 ?_
    intro v1 h
    refine ru_alen 4 h dX4_init_43 ?_
    intro v2 h
    refine ru_icmp_ge (tgt := 66) dX4_init_44 (by decide) (fun hc => ?_) (fun hc => ?_)
    · rw [if_pos hc] at h
      refine ru_iconst dX4_init_66 kc_i_0 <| ru_istore_n (i := 1) dX4_init_67 rfl (by decide) <| ?_
      exact ru_pick [0, 1] rfl (tbb_X4_init_68 hl0 hd   _ _ _ _ _ h)
    · rw [if_neg hc] at h
      refine ru_aload_n (i := 0) dX4_init_47 rfl rfl <| ?_
      refine ru_getR h dX4_init_48 lk_X4_11 ?_
      intro v3 h
      refine ru_iload_n (i := 1) dX4_init_51 rfl rfl <| ?_
      refine ru_new h dX4_init_52 nw_X4_9 ?_
      intro q4 h
      refine ru_dup dX4_init_55 rfl <| ?_
      obtain ⟨q5, hq5, h⟩ := Option.bind_eq_some_iff.mp h
      refine ru_callI rfl (tm_X8_init hl0 (by omega) hq5) dX4_init_56 rfl (Or.inr pn_X4_30) mf_X8_init rfl rfl (Nat.le_of_ble_eq_true rfl) ?_
      refine ru_aastore h dX4_init_59 ?_
      intro m6 h
      refine ru_iinc dX4_init_60 (by decide) rfl (ab_inc kc_i_1) <| ru_goto (tgt := 38) dX4_init_63 (by decide) <| ?_
      exact ru_pick [0, 1] rfl (ih _ _ _ _ h)
theorem te_X4_init {l : Launch} {g : ab_G} (hl0 : l.stackTraces = false) {d2 : Nat} (hd : 3 ≤ d2 + 1)   (l0 : Nat) (m0 : ab_Mm) (z : (Unit × ab_Mm)) (h : dd_X4_init  l0 m0 = some z) : ab_W l g cX4_init RX4 2 none [] true (d2 + 1) (.inl none) z.2 0 [(0, .ref l0)] [] m0 := by
  unfold dd_X4_init at h
  refine ru_aload_n (i := 0) dX4_init_0 rfl rfl <| ru_objInit dX4_init_1 ⟨pm_X4_3, po_inst, po_code⟩ (Nat.le_of_ble_eq_true rfl) <| ru_aload_n (i := 0) dX4_init_4 rfl rfl <| ru_bipush dX4_init_5 kc_b_10 <| ?_
  refine ru_anew h dX4_init_7 pc_X4_9 ?_
  intro q1 h
  refine ru_putR h dX4_init_10 lk_X4_11 (fun _ => ⟨rfl, rfl⟩) rfl (fun q hq => by cases hq; rfl) (fun q hq => by cases hq; exact pf_X4_11) ?_
  intro m2 h
  refine ru_aload_n (i := 0) dX4_init_13 rfl rfl <| ru_iconst dX4_init_14 kc_i_2 <| ?_
  refine ru_anew h dX4_init_15 pc_X4_9 ?_
  intro q3 h
  refine ru_putR h dX4_init_18 lk_X4_17 (fun _ => ⟨rfl, rfl⟩) rfl (fun q hq => by cases hq; rfl) (fun q hq => by cases hq; exact pf_X4_17) ?_
  intro m4 h
  refine ru_aload_n (i := 0) dX4_init_21 rfl rfl <| ru_iconst dX4_init_22 kc_i_0 <| ?_
  refine ru_putI h dX4_init_23 lk_X4_20 ?_
  intro m5 h
  refine ru_aload_n (i := 0) dX4_init_26 rfl rfl <| ru_iconst dX4_init_27 kc_i_0 <| ?_
  refine ru_putI h dX4_init_28 lk_X4_24 ?_
  intro m6 h
  refine ru_aload_n (i := 0) dX4_init_31 rfl rfl <| ru_iconst dX4_init_32 kc_i_0 <| ?_
  refine ru_putI h dX4_init_33 lk_X4_27 ?_
  intro m7 h
  refine ru_iconst dX4_init_36 kc_i_0 <| ru_istore_n (i := 1) dX4_init_37 rfl (by decide) <| ?_
  exact ru_pick [0, 1] rfl (tbb_X4_init_38 hl0 hd   _ _ _ _ _ h)
theorem tm_X4_init {l : Launch} {g : ab_G} (hl0 : l.stackTraces = false) {d : Nat} (hd : 3 ≤ d) {l0 : Nat} {m : ab_Mm} {z : (Unit × ab_Mm)} (h : dd_X4_init l0 m = some z) : ab_Met l g yX4_init cX4_init 2 none [] d [.ref l0] m (.inl none) z.2 := by
  obtain ⟨d2, rfl⟩ : ∃ d2, d = d2 + 1 := ⟨d - 1, by omega⟩
  exact ab_of hl0 (by decide +kernel) (Nat.le_of_ble_eq_true rfl) (fun _ => rfl) rfl (te_X4_init hl0 hd _ _ _ h)
theorem te_X4_clear {l : Launch} {g : ab_G} (hl0 : l.stackTraces = false) {d2 : Nat} (hd : 1 ≤ d2 + 1)   (l0 : Nat) (m0 : ab_Mm) (z : (Unit × ab_Mm)) (h : dd_X4_clear  l0 m0 = some z) : ab_W l g cX4_clear RX4 1 none [] false (d2 + 1) (.inl none) z.2 0 [(0, .ref l0)] [] m0 := by
  unfold dd_X4_clear at h
  refine ru_aload_n (i := 0) dX4_clear_0 rfl rfl <| ru_iconst dX4_clear_1 kc_i_0 <| ?_
  refine ru_putI h dX4_clear_2 lk_X4_20 ?_
  intro m1 h
  refine ru_aload_n (i := 0) dX4_clear_5 rfl rfl <| ru_iconst dX4_clear_6 kc_i_0 <| ?_
  refine ru_putI h dX4_clear_7 lk_X4_27 ?_
  intro m2 h
  cases h
  exact ru_ret (v := none) ⟨rfl, dX4_clear_10⟩
theorem tm_X4_clear {l : Launch} {g : ab_G} (hl0 : l.stackTraces = false) {d : Nat} (hd : 1 ≤ d) {l0 : Nat} {m : ab_Mm} {z : (Unit × ab_Mm)} (h : dd_X4_clear l0 m = some z) : ab_Met l g yX4_clear cX4_clear 1 none [] d [.ref l0] m (.inl none) z.2 := by
  obtain ⟨d2, rfl⟩ : ∃ d2, d = d2 + 1 := ⟨d - 1, by omega⟩
  exact ab_of hl0 (by decide +kernel) (Nat.le_of_ble_eq_true rfl) (fun q => by cases q) rfl (te_X4_clear hl0 hd _ _ _ h)
theorem tbb_X4_remember_90 {l : Launch} {g : ab_G} (hl0 : l.stackTraces = false) {d2 : Nat} (hd : 3 ≤ d2 + 1)    (m0 : ab_Mm) (z : (Unit × ab_Mm)) (h : bb_X4_remember_90   m0 = some z) : ab_W l g cX4_remember RX4 2 none [] false (d2 + 1) (.inl none) z.2 90 [] [] m0 := by
  unfold bb_X4_remember_90 at h
  cases h
  exact ru_ret (v := none) ⟨rfl, dX4_remember_90⟩
theorem tbb_X4_remember_69 {l : Launch} {g : ab_G} (hl0 : l.stackTraces = false) {d2 : Nat} (hd : 3 ≤ d2 + 1)   (l0 : Nat) (s0 : Nat) (s1 : Int32) (m0 : ab_Mm) (z : (Unit × ab_Mm)) (h : bb_X4_remember_69  l0 s0 s1 m0 = some z) : ab_W l g cX4_remember RX4 2 none [] false (d2 + 1) (.inl none) z.2 69 [(0, .ref l0)] [.int s1, .ref s0] m0 := by
  unfold bb_X4_remember_69 at h
  refine ru_putI h dX4_remember_69 lk_X4_24 ?_
  intro m1 h
  refine ru_aload_n (i := 0) dX4_remember_72 rfl rfl <| ru_aload_n (i := 0) dX4_remember_73 rfl rfl <| ?_
  refine ru_getI h dX4_remember_74 lk_X4_20 ?_
  intro v2 h
  refine ru_iconst dX4_remember_77 kc_i_1 <| ru_iadd dX4_remember_78 <| ru_aload_n (i := 0) dX4_remember_79 rfl rfl <| ?_
  refine ru_getR h dX4_remember_80 lk_X4_11 ?_
  intro v3 h
  refine ru_alen 4 h dX4_remember_83 ?_
  intro v4 h
  refine ru_mmin dX4_remember_84 ⟨pm_X4_35, pq_min_s, pq_ini, pq_min_c⟩ (Nat.le_of_ble_eq_true rfl) <| ?_
  refine ru_putI h dX4_remember_87 lk_X4_20 ?_
  intro m5 h
  exact ru_pick [] rfl (tbb_X4_remember_90 hl0 hd    _ _ h)
theorem te_X4_remember {l : Launch} {g : ab_G} (hl0 : l.stackTraces = false) {d2 : Nat} (hd : 3 ≤ d2 + 1)   (l0 : Nat) (l1 : Nat) (m0 : ab_Mm) (z : (Unit × ab_Mm)) (h : dd_X4_remember  l0 l1 m0 = some z) : ab_W l g cX4_remember RX4 2 none [] false (d2 + 1) (.inl none) z.2 0 [(0, .ref l0), (1, .ref l1)] [] m0 := by
  unfold dd_X4_remember at h
  refine ru_aload_n (i := 0) dX4_remember_0 rfl rfl <| ?_
  refine ru_getI h dX4_remember_1 lk_X4_24 ?_
  intro v1 h
  refine ru_if_lt (tgt := 90) dX4_remember_4 (by decide) (fun hc => ?_) (fun hc => ?_)
  · rw [if_pos hc] at h
    exact ru_pick [] rfl (tbb_X4_remember_90 hl0 hd    _ _ h)
  · rw [if_neg hc] at h
    refine ru_aload_n (i := 0) dX4_remember_7 rfl rfl <| ?_
    refine ru_getI h dX4_remember_8 lk_X4_24 ?_
    intro v2 h
    refine ru_aload_n (i := 0) dX4_remember_11 rfl rfl <| ?_
    refine ru_getR h dX4_remember_12 lk_X4_11 ?_
    intro v3 h
    refine ru_alen 4 h dX4_remember_15 ?_
    intro v4 h
    refine ru_icmp_ge (tgt := 90) dX4_remember_16 (by decide) (fun hc => ?_) (fun hc => ?_)
    · rw [if_pos hc] at h
      exact ru_pick [] rfl (tbb_X4_remember_90 hl0 hd    _ _ h)
    · rw [if_neg hc] at h
      refine ru_aload_n (i := 0) dX4_remember_19 rfl rfl <| ?_
      refine ru_getR h dX4_remember_20 lk_X4_11 ?_
      intro v5 h
      refine ru_aload_n (i := 0) dX4_remember_23 rfl rfl <| ?_
      refine ru_getI h dX4_remember_24 lk_X4_24 ?_
      intro v6 h
      refine ru_aaload h dX4_remember_27 ?_
      intro v7 h
      refine ru_ifnull dX4_remember_28 <| ru_aload_n (i := 0) dX4_remember_31 rfl rfl <| ?_
      refine ru_getR h dX4_remember_32 lk_X4_11 ?_
      intro v8 h
      refine ru_aload_n (i := 0) dX4_remember_35 rfl rfl <| ?_
      refine ru_getI h dX4_remember_36 lk_X4_24 ?_
      intro v9 h
      refine ru_aaload h dX4_remember_39 ?_
      intro v10 h
      refine ru_aload_n (i := 1) dX4_remember_40 rfl rfl <| ?_
      obtain ⟨_, hrc, h⟩ := Option.bind_eq_some_iff.mp h
      obtain ⟨q11, hq11, h⟩ := Option.bind_eq_some_iff.mp h
      refine ru_callV (tm_X8_copyFrom hl0 (by omega) hq11) dX4_remember_41 rfl pm_X4_31 mf_X8_copyFrom (ab_rcv_of hrc rfl) rfl rfl (Nat.le_of_ble_eq_true rfl) ?_
      refine ru_aload_n (i := 0) dX4_remember_44 rfl rfl <| ru_aload_n (i := 0) dX4_remember_45 rfl rfl <| ?_
      refine ru_getI h dX4_remember_46 lk_X4_24 ?_
      intro v12 h
      refine ru_iconst dX4_remember_49 kc_i_1 <| ru_iadd dX4_remember_50 <| ru_aload_n (i := 0) dX4_remember_51 rfl rfl <| ?_
      refine ru_getR h dX4_remember_52 lk_X4_11 ?_
      intro v13 h
      refine ru_alen 4 h dX4_remember_55 ?_
      intro v14 h
      refine ru_icmp_ge (tgt := 68) dX4_remember_56 (by decide) (fun hc => ?_) (fun hc => ?_)
      · rw [if_pos hc] at h
        refine ru_iconst dX4_remember_68 kc_i_0 <| ?_
        exact ru_pick [0] rfl (tbb_X4_remember_69 hl0 hd   _ _ _ _ _ h)
      · rw [if_neg hc] at h
        refine ru_aload_n (i := 0) dX4_remember_59 rfl rfl <| ?_
        refine ru_getI h dX4_remember_60 lk_X4_24 ?_
        intro v15 h
        refine ru_iconst dX4_remember_63 kc_i_1 <| ru_iadd dX4_remember_64 <| ru_goto (tgt := 69) dX4_remember_65 (by decide) <| ?_
        exact ru_pick [0] rfl (tbb_X4_remember_69 hl0 hd   _ _ _ _ _ h)
theorem tm_X4_remember {l : Launch} {g : ab_G} (hl0 : l.stackTraces = false) {d : Nat} (hd : 3 ≤ d) {l0 : Nat} {l1 : Nat} {m : ab_Mm} {z : (Unit × ab_Mm)} (h : dd_X4_remember l0 l1 m = some z) : ab_Met l g yX4_remember cX4_remember 2 none [] d [.ref l0, .ref l1] m (.inl none) z.2 := by
  obtain ⟨d2, rfl⟩ : ∃ d2, d = d2 + 1 := ⟨d - 1, by omega⟩
  exact ab_of hl0 (by decide +kernel) (Nat.le_of_ble_eq_true rfl) (fun q => by cases q) rfl (te_X4_remember hl0 hd _ _ _ _ h)
theorem tbb_X4_takeBack_53 {l : Launch} {g : ab_G} (hl0 : l.stackTraces = false) {d2 : Nat} (hd : 3 ≤ d2 + 1)    (m0 : ab_Mm) (z : (Int32 × ab_Mm)) (h : bb_X4_takeBack_53   m0 = some z) : ab_W l g cX4_takeBack RX4 3 (some .boolean) [] false (d2 + 1) (.inl (some (.int z.1))) z.2 53 [] [] m0 := by
  unfold bb_X4_takeBack_53 at h
  refine ru_iconst dX4_takeBack_53 kc_i_0 <| ?_
  cases h
  exact ru_ret (v := some (.int _)) ⟨_, rfl, ab_nz0, dX4_takeBack_54⟩
theorem tbb_X4_takeBack_23 {l : Launch} {g : ab_G} (hl0 : l.stackTraces = false) {d2 : Nat} (hd : 3 ≤ d2 + 1)   (l0 : Nat) (l1 : Nat) (s0 : Int32) (m0 : ab_Mm) (z : (Int32 × ab_Mm)) (h : bb_X4_takeBack_23  l0 l1 s0 m0 = some z) : ab_W l g cX4_takeBack RX4 3 (some .boolean) [] false (d2 + 1) (.inl (some (.int z.1))) z.2 23 [(0, .ref l0), (1, .ref l1)] [.int s0] m0 := by
  unfold bb_X4_takeBack_23 at h
  refine ru_istore_n (i := 2) dX4_takeBack_23 rfl (by decide) <| ru_aload_n (i := 0) dX4_takeBack_24 rfl rfl <| ?_
  refine ru_getI h dX4_takeBack_25 lk_X4_20 ?_
  intro v1 h
  refine ru_if_le (tgt := 53) dX4_takeBack_28 (by decide) (fun hc => ?_) (fun hc => ?_)
  · rw [if_pos hc] at h
    exact ru_pick [] rfl (tbb_X4_takeBack_53 hl0 hd    _ _ h)
  · rw [if_neg hc] at h
    refine ru_iload_n (i := 2) dX4_takeBack_31 rfl rfl <| ?_
    refine ru_if_lt (tgt := 53) dX4_takeBack_32 (by decide) (fun hc => ?_) (fun hc => ?_)
    · rw [if_pos hc] at h
      exact ru_pick [] rfl (tbb_X4_takeBack_53 hl0 hd    _ _ h)
    · rw [if_neg hc] at h
      refine ru_iload_n (i := 2) dX4_takeBack_35 rfl rfl <| ru_aload_n (i := 0) dX4_takeBack_36 rfl rfl <| ?_
      refine ru_getR h dX4_takeBack_37 lk_X4_11 ?_
      intro v2 h
      refine ru_alen 4 h dX4_takeBack_40 ?_
      intro v3 h
      refine ru_icmp_ge (tgt := 53) dX4_takeBack_41 (by decide) (fun hc => ?_) (fun hc => ?_)
      · rw [if_pos hc] at h
        exact ru_pick [] rfl (tbb_X4_takeBack_53 hl0 hd    _ _ h)
      · rw [if_neg hc] at h
        refine ru_aload_n (i := 0) dX4_takeBack_44 rfl rfl <| ?_
        refine ru_getR h dX4_takeBack_45 lk_X4_11 ?_
        intro v4 h
        refine ru_iload_n (i := 2) dX4_takeBack_48 rfl rfl <| ?_
        refine ru_aaload h dX4_takeBack_49 ?_
        intro v5 h
        refine ru_ifnonnull (tgt := 55) dX4_takeBack_50 (by decide) <| ?_
        refine ru_aload_n (i := 1) dX4_takeBack_55 rfl rfl <| ru_aload_n (i := 0) dX4_takeBack_56 rfl rfl <| ?_
        refine ru_getR h dX4_takeBack_57 lk_X4_11 ?_
        intro v6 h
        refine ru_iload_n (i := 2) dX4_takeBack_60 rfl rfl <| ?_
        refine ru_aaload h dX4_takeBack_61 ?_
        intro v7 h
        obtain ⟨_, hrc, h⟩ := Option.bind_eq_some_iff.mp h
        obtain ⟨q8, hq8, h⟩ := Option.bind_eq_some_iff.mp h
        refine ru_callV (tm_X8_copyFrom hl0 (by omega) hq8) dX4_takeBack_62 rfl pm_X4_31 mf_X8_copyFrom (ab_rcv_of hrc rfl) rfl rfl (Nat.le_of_ble_eq_true rfl) ?_
        refine ru_aload_n (i := 0) dX4_takeBack_65 rfl rfl <| ru_iload_n (i := 2) dX4_takeBack_66 rfl rfl <| ?_
        refine ru_putI h dX4_takeBack_67 lk_X4_24 ?_
        intro m9 h
        refine ru_aload_n (i := 0) dX4_takeBack_70 rfl rfl <| ru_dup dX4_takeBack_71 rfl <| ?_
        refine ru_getI h dX4_takeBack_72 lk_X4_20 ?_
        intro v10 h
        refine ru_iconst dX4_takeBack_75 kc_i_1 <| ru_isub dX4_takeBack_76 <| ?_
        refine ru_putI h dX4_takeBack_77 lk_X4_20 ?_
        intro m11 h
        refine ru_iconst dX4_takeBack_80 kc_i_1 <| ?_
        cases h
        exact ru_ret (v := some (.int _)) ⟨_, rfl, ab_nz1, dX4_takeBack_81⟩
theorem te_X4_takeBack {l : Launch} {g : ab_G} (hl0 : l.stackTraces = false) {d2 : Nat} (hd : 3 ≤ d2 + 1)   (l0 : Nat) (l1 : Nat) (m0 : ab_Mm) (z : (Int32 × ab_Mm)) (h : dd_X4_takeBack  l0 l1 m0 = some z) : ab_W l g cX4_takeBack RX4 3 (some .boolean) [] false (d2 + 1) (.inl (some (.int z.1))) z.2 0 [(0, .ref l0), (1, .ref l1)] [] m0 := by
  unfold dd_X4_takeBack at h
  refine ru_aload_n (i := 0) dX4_takeBack_0 rfl rfl <| ?_
  refine ru_getI h dX4_takeBack_1 lk_X4_24 ?_
  intro v1 h
  refine ru_if_le (tgt := 16) dX4_takeBack_4 (by decide) (fun hc => ?_) (fun hc => ?_)
  · rw [if_pos hc] at h
    refine ru_aload_n (i := 0) dX4_takeBack_16 rfl rfl <| ?_
    refine ru_getR h dX4_takeBack_17 lk_X4_11 ?_
    intro v2 h
    refine ru_alen 4 h dX4_takeBack_20 ?_
    intro v3 h
    refine ru_iconst dX4_takeBack_21 kc_i_1 <| ru_isub dX4_takeBack_22 <| ?_
    exact ru_pick [0, 1] rfl (tbb_X4_takeBack_23 hl0 hd   _ _ _ _ _ h)
  · rw [if_neg hc] at h
    refine ru_aload_n (i := 0) dX4_takeBack_7 rfl rfl <| ?_
    refine ru_getI h dX4_takeBack_8 lk_X4_24 ?_
    intro v4 h
    refine ru_iconst dX4_takeBack_11 kc_i_1 <| ru_isub dX4_takeBack_12 <| ru_goto (tgt := 23) dX4_takeBack_13 (by decide) <| ?_
    exact ru_pick [0, 1] rfl (tbb_X4_takeBack_23 hl0 hd   _ _ _ _ _ h)
theorem tm_X4_takeBack {l : Launch} {g : ab_G} (hl0 : l.stackTraces = false) {d : Nat} (hd : 3 ≤ d) {l0 : Nat} {l1 : Nat} {m : ab_Mm} {z : (Int32 × ab_Mm)} (h : dd_X4_takeBack l0 l1 m = some z) : ab_Met l g yX4_takeBack cX4_takeBack 3 (some .boolean) [] d [.ref l0, .ref l1] m (.inl (some (.int z.1))) z.2 := by
  obtain ⟨d2, rfl⟩ : ∃ d2, d = d2 + 1 := ⟨d - 1, by omega⟩
  exact ab_of hl0 (by decide +kernel) (Nat.le_of_ble_eq_true rfl) (fun q => by cases q) rfl (te_X4_takeBack hl0 hd _ _ _ _ h)
theorem tbb_X4_isSaved_29 {l : Launch} {g : ab_G} (hl0 : l.stackTraces = false) {d2 : Nat} (hd : 1 ≤ d2 + 1)   (s0 : Int32) (m0 : ab_Mm) (z : (Int32 × ab_Mm)) (h : bb_X4_isSaved_29  s0 m0 = some z) : ab_W l g cX4_isSaved RX4 2 (some .boolean) [] false (d2 + 1) (.inl (some (.int z.1))) z.2 29 [] [.int s0] m0 := by
  unfold bb_X4_isSaved_29 at h
  rcases ab_iff h with ⟨hc, h⟩ | ⟨hc, h⟩
  · cases h
  cases h
  exact ru_ret (v := some (.int _)) ⟨_, rfl, congrArg Value.int (Classical.not_not.mp hc), dX4_isSaved_29⟩
theorem tbb_X4_isSaved_28 {l : Launch} {g : ab_G} (hl0 : l.stackTraces = false) {d2 : Nat} (hd : 1 ≤ d2 + 1)    (m0 : ab_Mm) (z : (Int32 × ab_Mm)) (h : bb_X4_isSaved_28   m0 = some z) : ab_W l g cX4_isSaved RX4 2 (some .boolean) [] false (d2 + 1) (.inl (some (.int z.1))) z.2 28 [] [] m0 := by
  unfold bb_X4_isSaved_28 at h
  refine ru_iconst dX4_isSaved_28 kc_i_0 <| ?_
  exact ru_pick [] rfl (tbb_X4_isSaved_29 hl0 hd   _ _ _ h)
theorem te_X4_isSaved {l : Launch} {g : ab_G} (hl0 : l.stackTraces = false) {d2 : Nat} (hd : 1 ≤ d2 + 1)   (l0 : Nat) (l1 : Int32) (m0 : ab_Mm) (z : (Int32 × ab_Mm)) (h : dd_X4_isSaved  l0 l1 m0 = some z) : ab_W l g cX4_isSaved RX4 2 (some .boolean) [] false (d2 + 1) (.inl (some (.int z.1))) z.2 0 [(0, .ref l0), (1, .int l1)] [] m0 := by
  unfold dd_X4_isSaved at h
  refine ru_iload_n (i := 1) dX4_isSaved_0 rfl rfl <| ?_
  refine ru_if_lt (tgt := 28) dX4_isSaved_1 (by decide) (fun hc => ?_) (fun hc => ?_)
  · rw [if_pos hc] at h
    exact ru_pick [] rfl (tbb_X4_isSaved_28 hl0 hd    _ _ h)
  · rw [if_neg hc] at h
    refine ru_iload_n (i := 1) dX4_isSaved_4 rfl rfl <| ru_aload_n (i := 0) dX4_isSaved_5 rfl rfl <| ?_
    refine ru_getR h dX4_isSaved_6 lk_X4_17 ?_
    intro v1 h
    refine ru_alen 4 h dX4_isSaved_9 ?_
    intro v2 h
    refine ru_icmp_ge (tgt := 28) dX4_isSaved_10 (by decide) (fun hc => ?_) (fun hc => ?_)
    · rw [if_pos hc] at h
      exact ru_pick [] rfl (tbb_X4_isSaved_28 hl0 hd    _ _ h)
    · rw [if_neg hc] at h
      refine ru_aload_n (i := 0) dX4_isSaved_13 rfl rfl <| ?_
      refine ru_getI h dX4_isSaved_14 lk_X4_27 ?_
      intro v3 h
      refine ru_iload_n (i := 1) dX4_isSaved_17 rfl rfl <| ru_ishr dX4_isSaved_18 <| ru_iconst dX4_isSaved_19 kc_i_1 <| ru_iand dX4_isSaved_20 <| ?_
      refine ru_if_eq (tgt := 28) dX4_isSaved_21 (by decide) (fun hc => ?_) (fun hc => ?_)
      · rw [if_pos hc] at h
        exact ru_pick [] rfl (tbb_X4_isSaved_28 hl0 hd    _ _ h)
      · rw [if_neg hc] at h
        refine ru_iconst dX4_isSaved_24 kc_i_1 <| ru_goto (tgt := 29) dX4_isSaved_25 (by decide) <| ?_
        exact ru_pick [] rfl (tbb_X4_isSaved_29 hl0 hd   _ _ _ h)
theorem tm_X4_isSaved {l : Launch} {g : ab_G} (hl0 : l.stackTraces = false) {d : Nat} (hd : 1 ≤ d) {l0 : Nat} {l1 : Int32} {m : ab_Mm} {z : (Int32 × ab_Mm)} (h : dd_X4_isSaved l0 l1 m = some z) : ab_Met l g yX4_isSaved cX4_isSaved 2 (some .boolean) [] d [.ref l0, .int l1] m (.inl (some (.int z.1))) z.2 := by
  obtain ⟨d2, rfl⟩ : ∃ d2, d = d2 + 1 := ⟨d - 1, by omega⟩
  exact ab_of hl0 (by decide +kernel) (Nat.le_of_ble_eq_true rfl) (fun q => by cases q) rfl (te_X4_isSaved hl0 hd _ _ _ _ h)
theorem tbb_X4_save_44 {l : Launch} {g : ab_G} (hl0 : l.stackTraces = false) {d2 : Nat} (hd : 3 ≤ d2 + 1)    (m0 : ab_Mm) (z : (Unit × ab_Mm)) (h : bb_X4_save_44   m0 = some z) : ab_W l g cX4_save RX4 3 none [] false (d2 + 1) (.inl none) z.2 44 [] [] m0 := by
  unfold bb_X4_save_44 at h
  cases h
  exact ru_ret (v := none) ⟨rfl, dX4_save_44⟩
theorem te_X4_save {l : Launch} {g : ab_G} (hl0 : l.stackTraces = false) {d2 : Nat} (hd : 3 ≤ d2 + 1)   (l0 : Nat) (l1 : Int32) (l2 : Nat) (m0 : ab_Mm) (z : (Unit × ab_Mm)) (h : dd_X4_save  l0 l1 l2 m0 = some z) : ab_W l g cX4_save RX4 3 none [] false (d2 + 1) (.inl none) z.2 0 [(0, .ref l0), (1, .int l1), (2, .ref l2)] [] m0 := by
  unfold dd_X4_save at h
  refine ru_iload_n (i := 1) dX4_save_0 rfl rfl <| ?_
  refine ru_if_lt (tgt := 44) dX4_save_1 (by decide) (fun hc => ?_) (fun hc => ?_)
  · rw [if_pos hc] at h
    exact ru_pick [] rfl (tbb_X4_save_44 hl0 hd    _ _ h)
  · rw [if_neg hc] at h
    refine ru_iload_n (i := 1) dX4_save_4 rfl rfl <| ru_aload_n (i := 0) dX4_save_5 rfl rfl <| ?_
    refine ru_getR h dX4_save_6 lk_X4_17 ?_
    intro v1 h
    refine ru_alen 4 h dX4_save_9 ?_
    intro v2 h
    refine ru_icmp_ge (tgt := 44) dX4_save_10 (by decide) (fun hc => ?_) (fun hc => ?_)
    · rw [if_pos hc] at h
      exact ru_pick [] rfl (tbb_X4_save_44 hl0 hd    _ _ h)
    · rw [if_neg hc] at h
      refine ru_aload_n (i := 0) dX4_save_13 rfl rfl <| ?_
      refine ru_getR h dX4_save_14 lk_X4_17 ?_
      intro v3 h
      refine ru_iload_n (i := 1) dX4_save_17 rfl rfl <| ?_
      refine ru_aaload h dX4_save_18 ?_
      intro v4 h
      refine ru_ifnull dX4_save_19 <| ru_aload_n (i := 0) dX4_save_22 rfl rfl <| ?_
      refine ru_getR h dX4_save_23 lk_X4_17 ?_
      intro v5 h
      refine ru_iload_n (i := 1) dX4_save_26 rfl rfl <| ?_
      refine ru_aaload h dX4_save_27 ?_
      intro v6 h
      refine ru_aload_n (i := 2) dX4_save_28 rfl rfl <| ?_
      obtain ⟨_, hrc, h⟩ := Option.bind_eq_some_iff.mp h
      obtain ⟨q7, hq7, h⟩ := Option.bind_eq_some_iff.mp h
      refine ru_callV (tm_X8_copyFrom hl0 (by omega) hq7) dX4_save_29 rfl pm_X4_31 mf_X8_copyFrom (ab_rcv_of hrc rfl) rfl rfl (Nat.le_of_ble_eq_true rfl) ?_
      refine ru_aload_n (i := 0) dX4_save_32 rfl rfl <| ru_dup dX4_save_33 rfl <| ?_
      refine ru_getI h dX4_save_34 lk_X4_27 ?_
      intro v8 h
      refine ru_iconst dX4_save_37 kc_i_1 <| ru_iload_n (i := 1) dX4_save_38 rfl rfl <| ru_ishl dX4_save_39 <| ru_ior dX4_save_40 <| ?_
      refine ru_putI h dX4_save_41 lk_X4_27 ?_
      intro m9 h
      exact ru_pick [] rfl (tbb_X4_save_44 hl0 hd    _ _ h)
theorem tm_X4_save {l : Launch} {g : ab_G} (hl0 : l.stackTraces = false) {d : Nat} (hd : 3 ≤ d) {l0 : Nat} {l1 : Int32} {l2 : Nat} {m : ab_Mm} {z : (Unit × ab_Mm)} (h : dd_X4_save l0 l1 l2 m = some z) : ab_Met l g yX4_save cX4_save 3 none [] d [.ref l0, .int l1, .ref l2] m (.inl none) z.2 := by
  obtain ⟨d2, rfl⟩ : ∃ d2, d = d2 + 1 := ⟨d - 1, by omega⟩
  exact ab_of hl0 (by decide +kernel) (Nat.le_of_ble_eq_true rfl) (fun q => by cases q) rfl (te_X4_save hl0 hd _ _ _ _ _ h)
theorem tbb_X4_restore_45 {l : Launch} {g : ab_G} (hl0 : l.stackTraces = false) {d2 : Nat} (hd : 3 ≤ d2 + 1)    (m0 : ab_Mm) (z : (Unit × ab_Mm)) (h : bb_X4_restore_45   m0 = some z) : ab_W l g cX4_restore RX4 3 none [] false (d2 + 1) (.inl none) z.2 45 [] [] m0 := by
  unfold bb_X4_restore_45 at h
  cases h
  exact ru_ret (v := none) ⟨rfl, dX4_restore_45⟩
theorem te_X4_restore {l : Launch} {g : ab_G} (hl0 : l.stackTraces = false) {d2 : Nat} (hd : 3 ≤ d2 + 1)   (l0 : Nat) (l1 : Int32) (l2 : Nat) (m0 : ab_Mm) (z : (Unit × ab_Mm)) (h : dd_X4_restore  l0 l1 l2 m0 = some z) : ab_W l g cX4_restore RX4 3 none [] false (d2 + 1) (.inl none) z.2 0 [(0, .ref l0), (1, .int l1), (2, .ref l2)] [] m0 := by
  unfold dd_X4_restore at h
  refine ru_aload_n (i := 0) dX4_restore_0 rfl rfl <| ru_iload_n (i := 1) dX4_restore_1 rfl rfl <| ?_
  obtain ⟨_, hrc, h⟩ := Option.bind_eq_some_iff.mp h
  obtain ⟨q1, hq1, h⟩ := Option.bind_eq_some_iff.mp h
  refine ru_callV (tm_X4_isSaved hl0 (by omega) hq1) dX4_restore_2 rfl pm_X4_41 mf_X4_isSaved (ab_rcv_of hrc rfl) rfl rfl (Nat.le_of_ble_eq_true rfl) ?_
  refine ru_if_eq (tgt := 45) dX4_restore_5 (by decide) (fun hc => ?_) (fun hc => ?_)
  · rw [if_pos hc] at h
    exact ru_pick [] rfl (tbb_X4_restore_45 hl0 hd    _ _ h)
  · rw [if_neg hc] at h
    refine ru_iload_n (i := 1) dX4_restore_8 rfl rfl <| ?_
    refine ru_if_lt (tgt := 45) dX4_restore_9 (by decide) (fun hc => ?_) (fun hc => ?_)
    · rw [if_pos hc] at h
      exact ru_pick [] rfl (tbb_X4_restore_45 hl0 hd    _ _ h)
    · rw [if_neg hc] at h
      refine ru_iload_n (i := 1) dX4_restore_12 rfl rfl <| ru_aload_n (i := 0) dX4_restore_13 rfl rfl <| ?_
      refine ru_getR h dX4_restore_14 lk_X4_17 ?_
      intro v2 h
      refine ru_alen 4 h dX4_restore_17 ?_
      intro v3 h
      refine ru_icmp_ge (tgt := 45) dX4_restore_18 (by decide) (fun hc => ?_) (fun hc => ?_)
      · rw [if_pos hc] at h
        exact ru_pick [] rfl (tbb_X4_restore_45 hl0 hd    _ _ h)
      · rw [if_neg hc] at h
        refine ru_aload_n (i := 0) dX4_restore_21 rfl rfl <| ?_
        refine ru_getR h dX4_restore_22 lk_X4_17 ?_
        intro v4 h
        refine ru_iload_n (i := 1) dX4_restore_25 rfl rfl <| ?_
        refine ru_aaload h dX4_restore_26 ?_
        intro v5 h
        refine ru_ifnull dX4_restore_27 <| ru_aload_n (i := 2) dX4_restore_30 rfl rfl <| ru_aload_n (i := 0) dX4_restore_31 rfl rfl <| ?_
        refine ru_getR h dX4_restore_32 lk_X4_17 ?_
        intro v6 h
        refine ru_iload_n (i := 1) dX4_restore_35 rfl rfl <| ?_
        refine ru_aaload h dX4_restore_36 ?_
        intro v7 h
        obtain ⟨_, hrc, h⟩ := Option.bind_eq_some_iff.mp h
        obtain ⟨q8, hq8, h⟩ := Option.bind_eq_some_iff.mp h
        refine ru_callV (tm_X8_copyFrom hl0 (by omega) hq8) dX4_restore_37 rfl pm_X4_31 mf_X8_copyFrom (ab_rcv_of hrc rfl) rfl rfl (Nat.le_of_ble_eq_true rfl) ?_
        refine ru_aload_n (i := 0) dX4_restore_40 rfl rfl <| ru_iconst dX4_restore_41 kc_i_0 <| ?_
        refine ru_putI h dX4_restore_42 lk_X4_20 ?_
        intro m9 h
        exact ru_pick [] rfl (tbb_X4_restore_45 hl0 hd    _ _ h)
theorem tm_X4_restore {l : Launch} {g : ab_G} (hl0 : l.stackTraces = false) {d : Nat} (hd : 3 ≤ d) {l0 : Nat} {l1 : Int32} {l2 : Nat} {m : ab_Mm} {z : (Unit × ab_Mm)} (h : dd_X4_restore l0 l1 l2 m = some z) : ab_Met l g yX4_restore cX4_restore 3 none [] d [.ref l0, .int l1, .ref l2] m (.inl none) z.2 := by
  obtain ⟨d2, rfl⟩ : ∃ d2, d = d2 + 1 := ⟨d - 1, by omega⟩
  exact ab_of hl0 (by decide +kernel) (Nat.le_of_ble_eq_true rfl) (fun q => by cases q) rfl (te_X4_restore hl0 hd _ _ _ _ _ h)
theorem te_X5_init {l : Launch} {g : ab_G} (hl0 : l.stackTraces = false) {d2 : Nat} (hd : 1 ≤ d2 + 1)   (l0 : Nat) (m0 : ab_Mm) (z : (Unit × ab_Mm)) (h : dd_X5_init  l0 m0 = some z) : ab_W l g cX5_init RX5 1 none [] true (d2 + 1) (.inl none) z.2 0 [(0, .ref l0)] [] m0 := by
  unfold dd_X5_init at h
  refine ru_aload_n (i := 0) dX5_init_0 rfl rfl <| ru_objInit dX5_init_1 ⟨pm_X5_3, po_inst, po_code⟩ (Nat.le_of_ble_eq_true rfl) <| ru_aload_n (i := 0) dX5_init_4 rfl rfl <| ru_bipush dX5_init_5 kc_b_6 <| ?_
  refine ru_newI h dX5_init_7 fa_int ?_
  intro q1 h
  refine ru_putR h dX5_init_9 lk_X5_9 (fun _ => ⟨rfl, rfl⟩) rfl (fun q hq => by cases hq; rfl) (fun q hq => by cases hq; exact pf_X5_9) ?_
  intro m2 h
  refine ru_aload_n (i := 0) dX5_init_12 rfl rfl <| ru_bipush dX5_init_13 kc_b_6 <| ?_
  refine ru_newI h dX5_init_15 fa_int ?_
  intro q3 h
  refine ru_putR h dX5_init_17 lk_X5_15 (fun _ => ⟨rfl, rfl⟩) rfl (fun q hq => by cases hq; rfl) (fun q hq => by cases hq; exact pf_X5_15) ?_
  intro m4 h
  refine ru_aload_n (i := 0) dX5_init_20 rfl rfl <| ru_iconst dX5_init_21 kc_i_0 <| ?_
  refine ru_putI h dX5_init_22 lk_X5_18 ?_
  intro m5 h
  cases h
  exact ru_ret (v := none) ⟨rfl, dX5_init_25⟩
theorem tm_X5_init {l : Launch} {g : ab_G} (hl0 : l.stackTraces = false) {d : Nat} (hd : 1 ≤ d) {l0 : Nat} {m : ab_Mm} {z : (Unit × ab_Mm)} (h : dd_X5_init l0 m = some z) : ab_Met l g yX5_init cX5_init 1 none [] d [.ref l0] m (.inl none) z.2 := by
  obtain ⟨d2, rfl⟩ : ∃ d2, d = d2 + 1 := ⟨d - 1, by omega⟩
  exact ab_of hl0 (by decide +kernel) (Nat.le_of_ble_eq_true rfl) (fun _ => rfl) rfl (te_X5_init hl0 hd _ _ _ h)
theorem te_X5_restart {l : Launch} {g : ab_G} (hl0 : l.stackTraces = false) {d2 : Nat} (hd : 2 ≤ d2 + 1)   (l0 : Nat) (m0 : ab_Mm) (z : (Unit × ab_Mm)) (h : dd_X5_restart  l0 m0 = some z) : ab_W l g cX5_restart RX5 1 none [] false (d2 + 1) (.inl none) z.2 0 [(0, .ref l0)] [] m0 := by
  unfold dd_X5_restart at h
  refine ru_aload_n (i := 0) dX5_restart_0 rfl rfl <| ?_
  refine ru_getR h dX5_restart_1 lk_X5_9 ?_
  intro v1 h
  refine ru_iconst dX5_restart_4 kc_i_0 <| ?_
  obtain ⟨q2, hq2, h⟩ := Option.bind_eq_some_iff.mp h
  refine ru_callS (tm_J7_fill_53178 hl0 (by omega) hq2) dX5_restart_5 rfl pm_X5_22 mf_J7_fill_53178 rfl rfl (Nat.le_of_ble_eq_true rfl) ?_
  refine ru_aload_n (i := 0) dX5_restart_8 rfl rfl <| ru_iconst dX5_restart_9 kc_i_0 <| ?_
  refine ru_putI h dX5_restart_10 lk_X5_18 ?_
  intro m3 h
  cases h
  exact ru_ret (v := none) ⟨rfl, dX5_restart_13⟩
theorem tm_X5_restart {l : Launch} {g : ab_G} (hl0 : l.stackTraces = false) {d : Nat} (hd : 2 ≤ d) {l0 : Nat} {m : ab_Mm} {z : (Unit × ab_Mm)} (h : dd_X5_restart l0 m = some z) : ab_Met l g yX5_restart cX5_restart 1 none [] d [.ref l0] m (.inl none) z.2 := by
  obtain ⟨d2, rfl⟩ : ∃ d2, d = d2 + 1 := ⟨d - 1, by omega⟩
  exact ab_of hl0 (by decide +kernel) (Nat.le_of_ble_eq_true rfl) (fun q => by cases q) rfl (te_X5_restart hl0 hd _ _ _ h)
