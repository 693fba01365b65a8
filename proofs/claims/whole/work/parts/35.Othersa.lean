/-! ===== the methods keep to these functions (by program) ===== -/
theorem te_X0_init {l : Launch} {g : ab_G} (hl0 : l.stackTraces = false) {d2 : Nat} (hd : 2 ≤ d2 + 1)   (l0 : Nat) (m0 : ab_Mm) (z : (Unit × ab_Mm)) (h : dd_X0_init  l0 m0 = some z) : ab_W l g cX0_init RX0 1 none [] true (d2 + 1) (.inl none) z.2 0 [(0, .ref l0)] [] m0 := by
  unfold dd_X0_init at h
  refine ru_aload_n (i := 0) dX0_init_0 rfl rfl <| ru_objInit dX0_init_1 ⟨pm_X0_3, po_inst, po_code⟩ (Nat.le_of_ble_eq_true rfl) <| ru_aload_n (i := 0) dX0_init_4 rfl rfl <| ?_
  refine ru_new h dX0_init_5 nw_X0_9 ?_
  intro q1 h
  refine ru_dup dX0_init_8 rfl <| ru_bipush dX0_init_9 kc_b_6 <| ru_iconst dX0_init_11 kc_i_1 <| ?_
  obtain ⟨q2, hq2, h⟩ := Option.bind_eq_some_iff.mp h
  refine ru_callI rfl (tm_X10_init hl0 (by omega) hq2) dX0_init_12 rfl (Or.inl pm_X0_11) mf_X10_init rfl rfl (Nat.le_of_ble_eq_true rfl) ?_
  refine ru_putR h dX0_init_15 lk_X0_14 (fun _ => ⟨rfl, rfl⟩) rfl (fun q hq => by cases hq; rfl) (fun q hq => by cases hq; exact pf_X0_14) ?_
  intro m3 h
  refine ru_aload_n (i := 0) dX0_init_18 rfl rfl <| ?_
  refine ru_new h dX0_init_19 nw_X0_9 ?_
  intro q4 h
  refine ru_dup dX0_init_22 rfl <| ru_bipush dX0_init_23 kc_b_6 <| ru_bipush dX0_init_25 kc_b_6 <| ?_
  obtain ⟨q5, hq5, h⟩ := Option.bind_eq_some_iff.mp h
  refine ru_callI rfl (tm_X10_init hl0 (by omega) hq5) dX0_init_27 rfl (Or.inl pm_X0_11) mf_X10_init rfl rfl (Nat.le_of_ble_eq_true rfl) ?_
  refine ru_putR h dX0_init_30 lk_X0_20 (fun _ => ⟨rfl, rfl⟩) rfl (fun q hq => by cases hq; rfl) (fun q hq => by cases hq; exact pf_X0_20) ?_
  intro m6 h
  cases h
  exact ru_ret (v := none) ⟨rfl, dX0_init_33⟩
theorem tm_X0_init {l : Launch} {g : ab_G} (hl0 : l.stackTraces = false) {d : Nat} (hd : 2 ≤ d) {l0 : Nat} {m : ab_Mm} {z : (Unit × ab_Mm)} (h : dd_X0_init l0 m = some z) : ab_Met l g yX0_init cX0_init 1 none [] d [.ref l0] m (.inl none) z.2 := by
  obtain ⟨d2, rfl⟩ : ∃ d2, d = d2 + 1 := ⟨d - 1, by omega⟩
  exact ab_of hl0 (by decide +kernel) (Nat.le_of_ble_eq_true rfl) (fun _ => rfl) rfl (te_X0_init hl0 hd _ _ _ h)
theorem tbb_X0_addInstance_107 {l : Launch} {g : ab_G} (hl0 : l.stackTraces = false) {d2 : Nat} (hd : 3 ≤ d2 + 1)    (m0 : ab_Mm) (z : (Unit × ab_Mm)) (h : bb_X0_addInstance_107   m0 = some z) : ab_W l g cX0_addInstance RX0 6 none [] false (d2 + 1) (.inl none) z.2 107 [] [] m0 := by
  unfold bb_X0_addInstance_107 at h
  cases h
  exact ru_ret (v := none) ⟨rfl, dX0_addInstance_107⟩
theorem te_X0_addInstance {l : Launch} {g : ab_G} (hl0 : l.stackTraces = false) {d2 : Nat} (hd : 3 ≤ d2 + 1)   (l0 : Nat) (l1 : Nat) (l2 : Nat) (l3 : Int32) (m0 : ab_Mm) (z : (Unit × ab_Mm)) (h : dd_X0_addInstance  l0 l1 l2 l3 m0 = some z) : ab_W l g cX0_addInstance RX0 6 none [] false (d2 + 1) (.inl none) z.2 0 [(0, .ref l0), (1, .ref l1), (2, .ref l2), (3, .int l3)] [] m0 := by
  unfold dd_X0_addInstance at h
  refine ru_aload_n (i := 2) dX0_addInstance_0 rfl rfl <| ?_
  refine ru_getR h dX0_addInstance_1 lk_X0_67 ?_
  intro v1 h
  refine ru_iload_n (i := 3) dX0_addInstance_4 rfl rfl <| ru_iconst dX0_addInstance_5 kc_i_0 <| ?_
  obtain ⟨_, hrc, h⟩ := Option.bind_eq_some_iff.mp h
  obtain ⟨q2, hq2, h⟩ := Option.bind_eq_some_iff.mp h
  refine ru_callV (tm_X10_get hl0 (by omega) hq2) dX0_addInstance_6 rfl pm_X0_44 mf_X10_get (ab_rcv_of hrc rfl) rfl rfl (Nat.le_of_ble_eq_true rfl) ?_
  refine ru_istore dX0_addInstance_9 (by decide) <| ru_aload_n (i := 2) dX0_addInstance_11 rfl rfl <| ?_
  refine ru_getR h dX0_addInstance_12 lk_X0_67 ?_
  intro v3 h
  refine ru_iload_n (i := 3) dX0_addInstance_15 rfl rfl <| ru_iconst dX0_addInstance_16 kc_i_1 <| ?_
  obtain ⟨_, hrc, h⟩ := Option.bind_eq_some_iff.mp h
  obtain ⟨q4, hq4, h⟩ := Option.bind_eq_some_iff.mp h
  refine ru_callV (tm_X10_get hl0 (by omega) hq4) dX0_addInstance_17 rfl pm_X0_44 mf_X10_get (ab_rcv_of hrc rfl) rfl rfl (Nat.le_of_ble_eq_true rfl) ?_
  refine ru_istore dX0_addInstance_20 (by decide) <| ru_aload_n (i := 2) dX0_addInstance_22 rfl rfl <| ?_
  refine ru_getR h dX0_addInstance_23 lk_X0_67 ?_
  intro v5 h
  refine ru_iload_n (i := 3) dX0_addInstance_26 rfl rfl <| ru_iconst dX0_addInstance_27 kc_i_2 <| ?_
  obtain ⟨_, hrc, h⟩ := Option.bind_eq_some_iff.mp h
  obtain ⟨q6, hq6, h⟩ := Option.bind_eq_some_iff.mp h
  refine ru_callV (tm_X10_get hl0 (by omega) hq6) dX0_addInstance_28 rfl pm_X0_44 mf_X10_get (ab_rcv_of hrc rfl) rfl rfl (Nat.le_of_ble_eq_true rfl) ?_
  refine ru_iconst dX0_addInstance_31 kc_i_m1 <| ?_
  refine ru_icmp_eq (tgt := 58) dX0_addInstance_32 (by decide) (fun hc => ?_) (fun hc => ?_)
  · rw [if_pos hc] at h
    refine ru_aload_n (i := 0) dX0_addInstance_58 rfl rfl <| ?_
    refine ru_getR h dX0_addInstance_59 lk_X0_20 ?_
    intro v7 h
    refine ru_iload dX0_addInstance_62 rfl <| ru_iload dX0_addInstance_64 rfl <| ?_
    obtain ⟨_, hrc, h⟩ := Option.bind_eq_some_iff.mp h
    obtain ⟨q8, hq8, h⟩ := Option.bind_eq_some_iff.mp h
    refine ru_callV (tm_X10_get hl0 (by omega) hq8) dX0_addInstance_66 rfl pm_X0_44 mf_X10_get (ab_rcv_of hrc rfl) rfl rfl (Nat.le_of_ble_eq_true rfl) ?_
    refine ru_if_le (tgt := 87) dX0_addInstance_69 (by decide) (fun hc => ?_) (fun hc => ?_)
    · rw [if_pos hc] at h
      refine ru_aload_n (i := 0) dX0_addInstance_87 rfl rfl <| ?_
      refine ru_getR h dX0_addInstance_88 lk_X0_14 ?_
      intro v9 h
      refine ru_iload dX0_addInstance_91 rfl <| ru_iconst dX0_addInstance_93 kc_i_0 <| ru_aload_n (i := 1) dX0_addInstance_94 rfl rfl <| ?_
      refine ru_getR h dX0_addInstance_95 lk_X0_73 ?_
      intro v10 h
      refine ru_iload dX0_addInstance_98 rfl <| ru_iconst dX0_addInstance_100 kc_i_2 <| ?_
      obtain ⟨_, hrc, h⟩ := Option.bind_eq_some_iff.mp h
      obtain ⟨q11, hq11, h⟩ := Option.bind_eq_some_iff.mp h
      refine ru_callV (tm_X10_get hl0 (by omega) hq11) dX0_addInstance_101 rfl pm_X0_44 mf_X10_get (ab_rcv_of hrc rfl) rfl rfl (Nat.le_of_ble_eq_true rfl) ?_
      obtain ⟨_, hrc, h⟩ := Option.bind_eq_some_iff.mp h
      obtain ⟨q12, hq12, h⟩ := Option.bind_eq_some_iff.mp h
      refine ru_callV (tm_X10_add hl0 (by omega) hq12) dX0_addInstance_104 rfl pm_X0_52 mf_X10_add (ab_rcv_of hrc rfl) rfl rfl (Nat.le_of_ble_eq_true rfl) ?_
      exact ru_pick [] rfl (tbb_X0_addInstance_107 hl0 hd    _ _ h)
    · rw [if_neg hc] at h
      refine ru_aload_n (i := 0) dX0_addInstance_72 rfl rfl <| ?_
      refine ru_getR h dX0_addInstance_73 lk_X0_20 ?_
      intro v13 h
      refine ru_iload dX0_addInstance_76 rfl <| ru_iload dX0_addInstance_78 rfl <| ru_iconst dX0_addInstance_80 kc_i_m1 <| ?_
      obtain ⟨_, hrc, h⟩ := Option.bind_eq_some_iff.mp h
      obtain ⟨q14, hq14, h⟩ := Option.bind_eq_some_iff.mp h
      refine ru_callV (tm_X10_add hl0 (by omega) hq14) dX0_addInstance_81 rfl pm_X0_52 mf_X10_add (ab_rcv_of hrc rfl) rfl rfl (Nat.le_of_ble_eq_true rfl) ?_
      refine ru_goto (tgt := 107) dX0_addInstance_84 (by decide) <| ?_
      exact ru_pick [] rfl (tbb_X0_addInstance_107 hl0 hd    _ _ h)
  · rw [if_neg hc] at h
    refine ru_aload_n (i := 0) dX0_addInstance_35 rfl rfl <| ?_
    refine ru_getR h dX0_addInstance_36 lk_X0_14 ?_
    intro v15 h
    refine ru_iload dX0_addInstance_39 rfl <| ru_iconst dX0_addInstance_41 kc_i_0 <| ru_aload_n (i := 2) dX0_addInstance_42 rfl rfl <| ?_
    refine ru_getR h dX0_addInstance_43 lk_X0_70 ?_
    intro v16 h
    refine ru_iload dX0_addInstance_46 rfl <| ru_iconst dX0_addInstance_48 kc_i_0 <| ?_
    obtain ⟨_, hrc, h⟩ := Option.bind_eq_some_iff.mp h
    obtain ⟨q17, hq17, h⟩ := Option.bind_eq_some_iff.mp h
    refine ru_callV (tm_X10_get hl0 (by omega) hq17) dX0_addInstance_49 rfl pm_X0_44 mf_X10_get (ab_rcv_of hrc rfl) rfl rfl (Nat.le_of_ble_eq_true rfl) ?_
    obtain ⟨_, hrc, h⟩ := Option.bind_eq_some_iff.mp h
    obtain ⟨q18, hq18, h⟩ := Option.bind_eq_some_iff.mp h
    refine ru_callV (tm_X10_add hl0 (by omega) hq18) dX0_addInstance_52 rfl pm_X0_52 mf_X10_add (ab_rcv_of hrc rfl) rfl rfl (Nat.le_of_ble_eq_true rfl) ?_
    refine ru_goto (tgt := 107) dX0_addInstance_55 (by decide) <| ?_
    exact ru_pick [] rfl (tbb_X0_addInstance_107 hl0 hd    _ _ h)
theorem tm_X0_addInstance {l : Launch} {g : ab_G} (hl0 : l.stackTraces = false) {d : Nat} (hd : 3 ≤ d) {l0 : Nat} {l1 : Nat} {l2 : Nat} {l3 : Int32} {m : ab_Mm} {z : (Unit × ab_Mm)} (h : dd_X0_addInstance l0 l1 l2 l3 m = some z) : ab_Met l g yX0_addInstance cX0_addInstance 6 none [] d [.ref l0, .ref l1, .ref l2, .int l3] m (.inl none) z.2 := by
  obtain ⟨d2, rfl⟩ : ∃ d2, d = d2 + 1 := ⟨d - 1, by omega⟩
  exact ab_of hl0 (by decide +kernel) (Nat.le_of_ble_eq_true rfl) (fun q => by cases q) rfl (te_X0_addInstance hl0 hd _ _ _ _ _ _ h)
theorem tbb_X0_reckon_121 {l : Launch} {g : ab_G} (hl0 : l.stackTraces = false) {d2 : Nat} (hd : 4 ≤ d2 + 1) (r100 : Nat → Nat → Nat → Int32 → ab_Mm → Option (Unit × ab_Mm)) (hr100 : ∀ (l0 : Nat) (l1 : Nat) (l2 : Nat) (l3 : Int32) (m : ab_Mm) (z : (Unit × ab_Mm)), r100 l0 l1 l2 l3 m = some z → ab_W l g cX0_reckon RX0 5 none [] false (d2 + 1) (.inl none) z.2 100 [(0, .ref l0), (1, .ref l1), (2, .ref l2), (3, .int l3)] [] m) (l0 : Nat) (l1 : Nat) (l2 : Nat) (l3 : Int32) (m0 : ab_Mm) (z : (Unit × ab_Mm)) (h : bb_X0_reckon_121 r100 l0 l1 l2 l3 m0 = some z) : ab_W l g cX0_reckon RX0 5 none [] false (d2 + 1) (.inl none) z.2 121 [(0, .ref l0), (1, .ref l1), (2, .ref l2), (3, .int l3)] [] m0 := by
  unfold bb_X0_reckon_121 at h
  refine ru_iinc dX0_reckon_121 (by decide) rfl (ab_inc kc_i_1) <| ru_goto (tgt := 100) dX0_reckon_124 (by decide) <| ?_
  exact ru_pick [0, 1, 2, 3] rfl (hr100 _ _ _ _ _ _ h)
theorem tbb_X0_reckon_100 {l : Launch} {g : ab_G} (hl0 : l.stackTraces = false) {d2 : Nat} (hd : 4 ≤ d2 + 1)   : ∀ (n : Nat) (l0 : Nat) (l1 : Nat) (l2 : Nat) (l3 : Int32) (m0 : ab_Mm) (z : (Unit × ab_Mm)), bb_X0_reckon_100  n l0 l1 l2 l3 m0 = some z → ab_W l g cX0_reckon RX0 5 none [] false (d2 + 1) (.inl none) z.2 100 [(0, .ref l0), (1, .ref l1), (2, .ref l2), (3, .int l3)] [] m0 := by
  intro n
  induction n with
  | zero => intro l0 l1 l2 l3 m0 z h; cases h
  | succ n ih =>
    intro l0 l1 l2 l3 m0 z h
    rw [bb_X0_reckon_100] at h
    refine ru_iload_n (i := 3) dX0_reckon_100 rfl rfl <| ru_bipush dX0_reckon_101 kc_b_12 <| ?_
    refine ru_icmp_ge (tgt := 127) dX0_reckon_103 (by decide) (fun hc => ?_) (fun hc => ?_)
    · rw [if_pos hc] at h
      cases h
      exact ru_ret (v := none) ⟨rfl, dX0_reckon_127⟩
    · rw [if_neg hc] at h
      refine ru_aload_n (i := 2) dX0_reckon_106 rfl rfl <| ru_iload_n (i := 3) dX0_reckon_107 rfl rfl <| ?_
      obtain ⟨_, hrc, h⟩ := Option.bind_eq_some_iff.mp h
      obtain ⟨q1, hq1, h⟩ := Option.bind_eq_some_iff.mp h
      refine ru_callV (tm_X8_runs hl0 (by omega) hq1) dX0_reckon_108 rfl pm_X0_56 mf_X8_runs (ab_rcv_of hrc rfl) rfl rfl (Nat.le_of_ble_eq_true rfl) ?_
      refine ru_if_eq (tgt := 121) dX0_reckon_111 (by decide) (fun hc => ?_) (fun hc => ?_)
      · rw [if_pos hc] at h
        exact ru_pick [0, 1, 2, 3] rfl (tbb_X0_reckon_121 hl0 hd _ ih _ _ _ _ _ _ h)
      · rw [if_neg hc] at h
        refine ru_aload_n (i := 0) dX0_reckon_114 rfl rfl <| ru_aload_n (i := 1) dX0_reckon_115 rfl rfl <| ru_aload_n (i := 2) dX0_reckon_116 rfl rfl <| ru_iload_n (i := 3) dX0_reckon_117 rfl rfl <| ?_
        obtain ⟨_, hrc, h⟩ := Option.bind_eq_some_iff.mp h
        obtain ⟨q2, hq2, h⟩ := Option.bind_eq_some_iff.mp h
        refine ru_callV (tm_X0_addInstance hl0 (by omega) hq2) dX0_reckon_118 rfl pm_X0_60 mf_X0_addInstance (ab_rcv_of hrc rfl) rfl rfl (Nat.le_of_ble_eq_true rfl) ?_
        exact ru_pick [0, 1, 2, 3] rfl (tbb_X0_reckon_121 hl0 hd _ ih _ _ _ _ _ _ h)
theorem tbb_X0_reckon_92 {l : Launch} {g : ab_G} (hl0 : l.stackTraces = false) {d2 : Nat} (hd : 4 ≤ d2 + 1) (r16 : Nat → Nat → Nat → Int32 → ab_Mm → Option (Unit × ab_Mm)) (hr16 : ∀ (l0 : Nat) (l1 : Nat) (l2 : Nat) (l3 : Int32) (m : ab_Mm) (z : (Unit × ab_Mm)), r16 l0 l1 l2 l3 m = some z → ab_W l g cX0_reckon RX0 5 none [] false (d2 + 1) (.inl none) z.2 16 [(0, .ref l0), (1, .ref l1), (2, .ref l2), (3, .int l3)] [] m) (l0 : Nat) (l1 : Nat) (l2 : Nat) (l3 : Int32) (m0 : ab_Mm) (z : (Unit × ab_Mm)) (h : bb_X0_reckon_92 r16 l0 l1 l2 l3 m0 = some z) : ab_W l g cX0_reckon RX0 5 none [] false (d2 + 1) (.inl none) z.2 92 [(0, .ref l0), (1, .ref l1), (2, .ref l2), (3, .int l3)] [] m0 := by
  unfold bb_X0_reckon_92 at h
  refine ru_iinc dX0_reckon_92 (by decide) rfl (ab_inc kc_i_1) <| ru_goto (tgt := 16) dX0_reckon_95 (by decide) <| ?_
  exact ru_pick [0, 1, 2, 3] rfl (hr16 _ _ _ _ _ _ h)
theorem tbb_X0_reckon_16 {l : Launch} {g : ab_G} (hl0 : l.stackTraces = false) {d2 : Nat} (hd : 4 ≤ d2 + 1)   : ∀ (n : Nat) (l0 : Nat) (l1 : Nat) (l2 : Nat) (l3 : Int32) (m0 : ab_Mm) (z : (Unit × ab_Mm)), bb_X0_reckon_16  n l0 l1 l2 l3 m0 = some z → ab_W l g cX0_reckon RX0 5 none [] false (d2 + 1) (.inl none) z.2 16 [(0, .ref l0), (1, .ref l1), (2, .ref l2), (3, .int l3)] [] m0 := by
  intro n
  induction n with
  | zero => intro l0 l1 l2 l3 m0 z h; cases h
  | succ n ih =>
    intro l0 l1 l2 l3 m0 z h
    rw [bb_X0_reckon_16] at h
    refine ru_iload_n (i := 3) dX0_reckon_16 rfl rfl <| ru_aload_n (i := 1) dX0_reckon_17 rfl rfl <| ?_
    refine ru_getR h dX0_reckon_18 lk_X0_26 ?_
    intro v1 h
    refine ru_getI h dX0_reckon_21 lk_X0_31 ?_
    intro v2 h
    refine ru_icmp_ge (tgt := 98) dX0_reckon_24 (by decide) (fun hc => ?_) (fun hc => ?_)
    · rw [if_pos hc] at h
      refine ru_iconst dX0_reckon_98 kc_i_0 <| ru_istore_n (i := 3) dX0_reckon_99 rfl (by decide) <| ?_
      exact ru_pick [0, 1, 2, 3] rfl (tbb_X0_reckon_100 hl0 hd   _ _ _ _ _ _ _ h)
    · rw [if_neg hc] at h
      refine ru_aload_n (i := 1) dX0_reckon_27 rfl rfl <| ru_iload_n (i := 3) dX0_reckon_28 rfl rfl <| ru_aload_n (i := 2) dX0_reckon_29 rfl rfl <| ?_
      refine ru_getI h dX0_reckon_30 lk_X0_35 ?_
      intro v3 h
      obtain ⟨_, hrc, h⟩ := Option.bind_eq_some_iff.mp h
      obtain ⟨q4, hq4, h⟩ := Option.bind_eq_some_iff.mp h
      refine ru_callV (tm_X1_isActive hl0 (by omega) hq4) dX0_reckon_33 rfl pm_X0_40 mf_X1_isActive (ab_rcv_of hrc rfl) rfl rfl (Nat.le_of_ble_eq_true rfl) ?_
      refine ru_if_eq (tgt := 92) dX0_reckon_36 (by decide) (fun hc => ?_) (fun hc => ?_)
      · rw [if_pos hc] at h
        exact ru_pick [0, 1, 2, 3] rfl (tbb_X0_reckon_92 hl0 hd _ ih _ _ _ _ _ _ h)
      · rw [if_neg hc] at h
        refine ru_aload_n (i := 1) dX0_reckon_39 rfl rfl <| ?_
        refine ru_getR h dX0_reckon_40 lk_X0_26 ?_
        intro v5 h
        refine ru_iload_n (i := 3) dX0_reckon_43 rfl rfl <| ru_iconst dX0_reckon_44 kc_i_0 <| ?_
        obtain ⟨_, hrc, h⟩ := Option.bind_eq_some_iff.mp h
        obtain ⟨q6, hq6, h⟩ := Option.bind_eq_some_iff.mp h
        refine ru_callV (tm_X10_get hl0 (by omega) hq6) dX0_reckon_45 rfl pm_X0_44 mf_X10_get (ab_rcv_of hrc rfl) rfl rfl (Nat.le_of_ble_eq_true rfl) ?_
        refine ru_istore dX0_reckon_48 (by decide) <| ru_aload_n (i := 0) dX0_reckon_50 rfl rfl <| ?_
        refine ru_getR h dX0_reckon_51 lk_X0_14 ?_
        intro v7 h
        refine ru_iload dX0_reckon_54 rfl <| ru_iconst dX0_reckon_56 kc_i_0 <| ru_aload_n (i := 1) dX0_reckon_57 rfl rfl <| ru_iload_n (i := 3) dX0_reckon_58 rfl rfl <| ?_
        obtain ⟨_, hrc, h⟩ := Option.bind_eq_some_iff.mp h
        obtain ⟨q8, hq8, h⟩ := Option.bind_eq_some_iff.mp h
        refine ru_callV (tm_X1_payment hl0 (by omega) hq8) dX0_reckon_59 rfl pm_X0_48 mf_X1_payment (ab_rcv_of hrc rfl) rfl rfl (Nat.le_of_ble_eq_true rfl) ?_
        obtain ⟨_, hrc, h⟩ := Option.bind_eq_some_iff.mp h
        obtain ⟨q9, hq9, h⟩ := Option.bind_eq_some_iff.mp h
        refine ru_callV (tm_X10_add hl0 (by omega) hq9) dX0_reckon_62 rfl pm_X0_52 mf_X10_add (ab_rcv_of hrc rfl) rfl rfl (Nat.le_of_ble_eq_true rfl) ?_
        refine ru_aload_n (i := 0) dX0_reckon_65 rfl rfl <| ?_
        refine ru_getR h dX0_reckon_66 lk_X0_20 ?_
        intro v10 h
        refine ru_iload dX0_reckon_69 rfl <| ru_aload_n (i := 1) dX0_reckon_71 rfl rfl <| ?_
        refine ru_getR h dX0_reckon_72 lk_X0_26 ?_
        intro v11 h
        refine ru_iload_n (i := 3) dX0_reckon_75 rfl rfl <| ru_iconst dX0_reckon_76 kc_i_1 <| ?_
        obtain ⟨_, hrc, h⟩ := Option.bind_eq_some_iff.mp h
        obtain ⟨q12, hq12, h⟩ := Option.bind_eq_some_iff.mp h
        refine ru_callV (tm_X10_get hl0 (by omega) hq12) dX0_reckon_77 rfl pm_X0_44 mf_X10_get (ab_rcv_of hrc rfl) rfl rfl (Nat.le_of_ble_eq_true rfl) ?_
        refine ru_aload_n (i := 1) dX0_reckon_80 rfl rfl <| ?_
        refine ru_getR h dX0_reckon_81 lk_X0_26 ?_
        intro v13 h
        refine ru_iload_n (i := 3) dX0_reckon_84 rfl rfl <| ru_iconst dX0_reckon_85 kc_i_2 <| ?_
        obtain ⟨_, hrc, h⟩ := Option.bind_eq_some_iff.mp h
        obtain ⟨q14, hq14, h⟩ := Option.bind_eq_some_iff.mp h
        refine ru_callV (tm_X10_get hl0 (by omega) hq14) dX0_reckon_86 rfl pm_X0_44 mf_X10_get (ab_rcv_of hrc rfl) rfl rfl (Nat.le_of_ble_eq_true rfl) ?_
        obtain ⟨_, hrc, h⟩ := Option.bind_eq_some_iff.mp h
        obtain ⟨q15, hq15, h⟩ := Option.bind_eq_some_iff.mp h
        refine ru_callV (tm_X10_add hl0 (by omega) hq15) dX0_reckon_89 rfl pm_X0_52 mf_X10_add (ab_rcv_of hrc rfl) rfl rfl (Nat.le_of_ble_eq_true rfl) ?_
        exact ru_pick [0, 1, 2, 3] rfl (tbb_X0_reckon_92 hl0 hd _ ih _ _ _ _ _ _ h)
theorem te_X0_reckon {l : Launch} {g : ab_G} (hl0 : l.stackTraces = false) {d2 : Nat} (hd : 4 ≤ d2 + 1)   (l0 : Nat) (l1 : Nat) (l2 : Nat) (m0 : ab_Mm) (z : (Unit × ab_Mm)) (h : dd_X0_reckon  l0 l1 l2 m0 = some z) : ab_W l g cX0_reckon RX0 5 none [] false (d2 + 1) (.inl none) z.2 0 [(0, .ref l0), (1, .ref l1), (2, .ref l2)] [] m0 := by
  unfold dd_X0_reckon at h
  refine ru_aload_n (i := 0) dX0_reckon_0 rfl rfl <| ?_
  refine ru_getR h dX0_reckon_1 lk_X0_14 ?_
  intro v1 h
  obtain ⟨_, hrc, h⟩ := Option.bind_eq_some_iff.mp h
  obtain ⟨q2, hq2, h⟩ := Option.bind_eq_some_iff.mp h
  refine ru_callV (tm_X10_clear hl0 (by omega) hq2) dX0_reckon_4 rfl pm_X0_23 mf_X10_clear (ab_rcv_of hrc rfl) rfl rfl (Nat.le_of_ble_eq_true rfl) ?_
  refine ru_aload_n (i := 0) dX0_reckon_7 rfl rfl <| ?_
  refine ru_getR h dX0_reckon_8 lk_X0_20 ?_
  intro v3 h
  obtain ⟨_, hrc, h⟩ := Option.bind_eq_some_iff.mp h
  obtain ⟨q4, hq4, h⟩ := Option.bind_eq_some_iff.mp h
  refine ru_callV (tm_X10_clear hl0 (by omega) hq4) dX0_reckon_11 rfl pm_X0_23 mf_X10_clear (ab_rcv_of hrc rfl) rfl rfl (Nat.le_of_ble_eq_true rfl) ?_
  refine ru_iconst dX0_reckon_14 kc_i_0 <| ru_istore_n (i := 3) dX0_reckon_15 rfl (by decide) <| ?_
  exact ru_pick [0, 1, 2, 3] rfl (tbb_X0_reckon_16 hl0 hd   _ _ _ _ _ _ _ h)
theorem tm_X0_reckon {l : Launch} {g : ab_G} (hl0 : l.stackTraces = false) {d : Nat} (hd : 4 ≤ d) {l0 : Nat} {l1 : Nat} {l2 : Nat} {m : ab_Mm} {z : (Unit × ab_Mm)} (h : dd_X0_reckon l0 l1 l2 m = some z) : ab_Met l g yX0_reckon cX0_reckon 5 none [] d [.ref l0, .ref l1, .ref l2] m (.inl none) z.2 := by
  obtain ⟨d2, rfl⟩ : ∃ d2, d = d2 + 1 := ⟨d - 1, by omega⟩
  exact ab_of hl0 (by decide +kernel) (Nat.le_of_ble_eq_true rfl) (fun q => by cases q) rfl (te_X0_reckon hl0 hd _ _ _ _ _ h)
theorem tbb_X0_charge_2 {l : Launch} {g : ab_G} (hl0 : l.stackTraces = false) {d2 : Nat} (hd : 2 ≤ d2 + 1)   : ∀ (n : Nat) (l0 : Nat) (l1 : Nat) (l2 : Int32) (m0 : ab_Mm) (z : (Unit × ab_Mm)), bb_X0_charge_2  n l0 l1 l2 m0 = some z → ab_W l g cX0_charge RX0 3 none [] false (d2 + 1) (.inl none) z.2 2 [(0, .ref l0), (1, .ref l1), (2, .int l2)] [] m0 := by
  intro n
  induction n with
  | zero => intro l0 l1 l2 m0 z h; cases h
  | succ n ih =>
    intro l0 l1 l2 m0 z h
    rw [bb_X0_charge_2] at h
    refine ru_iload_n (i := 2) dX0_charge_2 rfl rfl <| ru_bipush dX0_charge_3 kc_b_6 <| ?_
    refine ru_icmp_ge (tgt := 28) dX0_charge_5 (by decide) (fun hc => ?_) (fun hc => ?_)
    · rw [if_pos hc] at h
      cases h
      exact ru_ret (v := none) ⟨rfl, dX0_charge_28⟩
    · rw [if_neg hc] at h
      refine ru_aload_n (i := 1) dX0_charge_8 rfl rfl <| ru_iload_n (i := 2) dX0_charge_9 rfl rfl <| ru_aload_n (i := 0) dX0_charge_10 rfl rfl <| ?_
      refine ru_getR h dX0_charge_11 lk_X0_14 ?_
      intro v1 h
      refine ru_iload_n (i := 2) dX0_charge_14 rfl rfl <| ru_iconst dX0_charge_15 kc_i_0 <| ?_
      obtain ⟨_, hrc, h⟩ := Option.bind_eq_some_iff.mp h
      obtain ⟨q2, hq2, h⟩ := Option.bind_eq_some_iff.mp h
      refine ru_callV (tm_X10_get hl0 (by omega) hq2) dX0_charge_16 rfl pm_X0_44 mf_X10_get (ab_rcv_of hrc rfl) rfl rfl (Nat.le_of_ble_eq_true rfl) ?_
      obtain ⟨_, hrc, h⟩ := Option.bind_eq_some_iff.mp h
      obtain ⟨q3, hq3, h⟩ := Option.bind_eq_some_iff.mp h
      refine ru_callV (tm_X8_charge hl0 (by omega) hq3) dX0_charge_19 rfl pm_X0_64 mf_X8_charge (ab_rcv_of hrc rfl) rfl rfl (Nat.le_of_ble_eq_true rfl) ?_
      refine ru_iinc dX0_charge_22 (by decide) rfl (ab_inc kc_i_1) <| ru_goto (tgt := 2) dX0_charge_25 (by decide) <| ?_
      exact ru_pick [0, 1, 2] rfl (ih _ _ _ _ _ h)
theorem te_X0_charge {l : Launch} {g : ab_G} (hl0 : l.stackTraces = false) {d2 : Nat} (hd : 2 ≤ d2 + 1)   (l0 : Nat) (l1 : Nat) (m0 : ab_Mm) (z : (Unit × ab_Mm)) (h : dd_X0_charge  l0 l1 m0 = some z) : ab_W l g cX0_charge RX0 3 none [] false (d2 + 1) (.inl none) z.2 0 [(0, .ref l0), (1, .ref l1)] [] m0 := by
  unfold dd_X0_charge at h
  refine ru_iconst dX0_charge_0 kc_i_0 <| ru_istore_n (i := 2) dX0_charge_1 rfl (by decide) <| ?_
  exact ru_pick [0, 1, 2] rfl (tbb_X0_charge_2 hl0 hd   _ _ _ _ _ _ h)
theorem tm_X0_charge {l : Launch} {g : ab_G} (hl0 : l.stackTraces = false) {d : Nat} (hd : 2 ≤ d) {l0 : Nat} {l1 : Nat} {m : ab_Mm} {z : (Unit × ab_Mm)} (h : dd_X0_charge l0 l1 m = some z) : ab_Met l g yX0_charge cX0_charge 3 none [] d [.ref l0, .ref l1] m (.inl none) z.2 := by
  obtain ⟨d2, rfl⟩ : ∃ d2, d = d2 + 1 := ⟨d - 1, by omega⟩
  exact ab_of hl0 (by decide +kernel) (Nat.le_of_ble_eq_true rfl) (fun q => by cases q) rfl (te_X0_charge hl0 hd _ _ _ _ h)
theorem te_X2_init {l : Launch} {g : ab_G} (hl0 : l.stackTraces = false) {d2 : Nat} (hd : 2 ≤ d2 + 1)   (l0 : Nat) (m0 : ab_Mm) (z : (Unit × ab_Mm)) (h : dd_X2_init  l0 m0 = some z) : ab_W l g cX2_init RX2 1 none [] true (d2 + 1) (.inl none) z.2 0 [(0, .ref l0)] [] m0 := by
  unfold dd_X2_init at h
  refine ru_aload_n (i := 0) dX2_init_0 rfl rfl <| ru_objInit dX2_init_1 ⟨pm_X2_3, po_inst, po_code⟩ (Nat.le_of_ble_eq_true rfl) <| ru_aload_n (i := 0) dX2_init_4 rfl rfl <| ru_iconst dX2_init_5 kc_i_5 <| ?_
  refine ru_newI h dX2_init_6 fa_int ?_
  intro q1 h
  refine ru_putR h dX2_init_8 lk_X2_9 (fun _ => ⟨rfl, rfl⟩) rfl (fun q hq => by cases hq; rfl) (fun q hq => by cases hq; exact pf_X2_9) ?_
  intro m2 h
  refine ru_aload_n (i := 0) dX2_init_11 rfl rfl <| ru_iconst dX2_init_12 kc_i_5 <| ?_
  refine ru_newI h dX2_init_13 fa_int ?_
  intro q3 h
  refine ru_putR h dX2_init_15 lk_X2_15 (fun _ => ⟨rfl, rfl⟩) rfl (fun q hq => by cases hq; rfl) (fun q hq => by cases hq; exact pf_X2_15) ?_
  intro m4 h
  refine ru_aload_n (i := 0) dX2_init_18 rfl rfl <| ru_iconst dX2_init_19 kc_i_0 <| ?_
  refine ru_putI h dX2_init_20 lk_X2_18 ?_
  intro m5 h
  refine ru_aload_n (i := 0) dX2_init_23 rfl rfl <| ?_
  refine ru_new h dX2_init_24 nw_X2_22 ?_
  intro q6 h
  refine ru_dup dX2_init_27 rfl <| ru_bipush dX2_init_28 kc_b_8 <| ru_iconst dX2_init_30 kc_i_2 <| ?_
  obtain ⟨q7, hq7, h⟩ := Option.bind_eq_some_iff.mp h
  refine ru_callI rfl (tm_X10_init hl0 (by omega) hq7) dX2_init_31 rfl (Or.inl pm_X2_24) mf_X10_init rfl rfl (Nat.le_of_ble_eq_true rfl) ?_
  refine ru_putR h dX2_init_34 lk_X2_27 (fun _ => ⟨rfl, rfl⟩) rfl (fun q hq => by cases hq; rfl) (fun q hq => by cases hq; exact pf_X2_27) ?_
  intro m8 h
  cases h
  exact ru_ret (v := none) ⟨rfl, dX2_init_37⟩
theorem tm_X2_init {l : Launch} {g : ab_G} (hl0 : l.stackTraces = false) {d : Nat} (hd : 2 ≤ d) {l0 : Nat} {m : ab_Mm} {z : (Unit × ab_Mm)} (h : dd_X2_init l0 m = some z) : ab_Met l g yX2_init cX2_init 1 none [] d [.ref l0] m (.inl none) z.2 := by
  obtain ⟨d2, rfl⟩ : ∃ d2, d = d2 + 1 := ⟨d - 1, by omega⟩
  exact ab_of hl0 (by decide +kernel) (Nat.le_of_ble_eq_true rfl) (fun _ => rfl) rfl (te_X2_init hl0 hd _ _ _ h)
theorem tbb_X2_place_183 {l : Launch} {g : ab_G} (hl0 : l.stackTraces = false) {d2 : Nat} (hd : 3 ≤ d2 + 1) (c_X2_place : Nat → Nat → Nat → Int32 → ab_Mm → Option (Int32 × ab_Mm)) (r81 : Nat → Nat → Nat → Int32 → Nat → Int32 → Int32 → Int32 → ab_Mm → Option (Int32 × ab_Mm)) (hc_X2_place : ∀ (a0 : Nat) (a1 : Nat) (a2 : Nat) (a3 : Int32) (m : ab_Mm) (z : (Int32 × ab_Mm)), c_X2_place a0 a1 a2 a3 m = some z → ab_Met l g yX2_place cX2_place 9 (some .boolean) [] d2 [.ref a0, .ref a1, .ref a2, .int a3] m (.inl (some (.int z.1))) z.2) (hr81 : ∀ (l0 : Nat) (l1 : Nat) (l2 : Nat) (l3 : Int32) (l5 : Nat) (l6 : Int32) (l7 : Int32) (l8 : Int32) (m : ab_Mm) (z : (Int32 × ab_Mm)), r81 l0 l1 l2 l3 l5 l6 l7 l8 m = some z → ab_W l g cX2_place RX2 9 (some .boolean) [] false (d2 + 1) (.inl (some (.int z.1))) z.2 81 [(0, .ref l0), (1, .ref l1), (2, .ref l2), (3, .int l3), (5, .ref l5), (6, .int l6), (7, .int l7), (8, .int l8)] [] m) (l0 : Nat) (l1 : Nat) (l2 : Nat) (l3 : Int32) (l5 : Nat) (l6 : Int32) (l7 : Int32) (l8 : Int32) (m0 : ab_Mm) (z : (Int32 × ab_Mm)) (h : bb_X2_place_183 c_X2_place r81 l0 l1 l2 l3 l5 l6 l7 l8 m0 = some z) : ab_W l g cX2_place RX2 9 (some .boolean) [] false (d2 + 1) (.inl (some (.int z.1))) z.2 183 [(0, .ref l0), (1, .ref l1), (2, .ref l2), (3, .int l3), (5, .ref l5), (6, .int l6), (7, .int l7), (8, .int l8)] [] m0 := by
  unfold bb_X2_place_183 at h
  refine ru_iinc dX2_place_183 (by decide) rfl (ab_inc kc_i_1) <| ru_goto (tgt := 81) dX2_place_186 (by decide) <| ?_
  exact ru_pick [0, 1, 2, 3, 5, 6, 7, 8] rfl (hr81 _ _ _ _ _ _ _ _ _ _ h)
theorem tbb_X2_place_81 {l : Launch} {g : ab_G} (hl0 : l.stackTraces = false) {d2 : Nat} (hd : 3 ≤ d2 + 1) (c_X2_place : Nat → Nat → Nat → Int32 → ab_Mm → Option (Int32 × ab_Mm)) (hc_X2_place : ∀ (a0 : Nat) (a1 : Nat) (a2 : Nat) (a3 : Int32) (m : ab_Mm) (z : (Int32 × ab_Mm)), c_X2_place a0 a1 a2 a3 m = some z → ab_Met l g yX2_place cX2_place 9 (some .boolean) [] d2 [.ref a0, .ref a1, .ref a2, .int a3] m (.inl (some (.int z.1))) z.2) : ∀ (n : Nat) (l0 : Nat) (l1 : Nat) (l2 : Nat) (l3 : Int32) (l5 : Nat) (l6 : Int32) (l7 : Int32) (l8 : Int32) (m0 : ab_Mm) (z : (Int32 × ab_Mm)), bb_X2_place_81 c_X2_place n l0 l1 l2 l3 l5 l6 l7 l8 m0 = some z → ab_W l g cX2_place RX2 9 (some .boolean) [] false (d2 + 1) (.inl (some (.int z.1))) z.2 81 [(0, .ref l0), (1, .ref l1), (2, .ref l2), (3, .int l3), (5, .ref l5), (6, .int l6), (7, .int l7), (8, .int l8)] [] m0 := by
  intro n
  induction n with
  | zero => intro l0 l1 l2 l3 l5 l6 l7 l8 m0 z h; cases h
  | succ n ih =>
    intro l0 l1 l2 l3 l5 l6 l7 l8 m0 z h
    rw [bb_X2_place_81] at h
    refine ru_iload dX2_place_81 rfl <| ru_aload_n (i := 1) dX2_place_83 rfl rfl <| ?_
    refine ru_getR h dX2_place_84 lk_X2_44 ?_
    intro v1 h
    refine ru_getI h dX2_place_87 lk_X2_49 ?_
    intro v2 h
    refine ru_icmp_ge (tgt := 189) dX2_place_90 (by decide) (fun hc => ?_) (fun hc => ?_)
    · rw [if_pos hc] at h
      refine ru_iconst dX2_place_189 kc_i_0 <| ?_
      cases h
      exact ru_ret (v := some (.int _)) ⟨_, rfl, ab_nz0, dX2_place_190⟩
    · rw [if_neg hc] at h
      refine ru_iload dX2_place_93 rfl <| ru_aload dX2_place_95 rfl <| ru_iload dX2_place_97 rfl <| ru_iconst dX2_place_99 kc_i_0 <| ?_
      obtain ⟨_, hrc, h⟩ := Option.bind_eq_some_iff.mp h
      obtain ⟨q3, hq3, h⟩ := Option.bind_eq_some_iff.mp h
      refine ru_callV (tm_X10_get hl0 (by omega) hq3) dX2_place_100 rfl pm_X2_40 mf_X10_get (ab_rcv_of hrc rfl) rfl rfl (Nat.le_of_ble_eq_true rfl) ?_
      refine ru_icmp_gt (tgt := 183) dX2_place_103 (by decide) (fun hc => ?_) (fun hc => ?_)
      · rw [if_pos hc] at h
        exact ru_pick [0, 1, 2, 3, 5, 6, 7, 8] rfl (tbb_X2_place_183 hl0 hd _ _ hc_X2_place ih _ _ _ _ _ _ _ _ _ _ h)
      · rw [if_neg hc] at h
        refine ru_iload dX2_place_106 rfl <| ru_aload dX2_place_108 rfl <| ru_iload dX2_place_110 rfl <| ru_iconst dX2_place_112 kc_i_1 <| ?_
        obtain ⟨_, hrc, h⟩ := Option.bind_eq_some_iff.mp h
        obtain ⟨q4, hq4, h⟩ := Option.bind_eq_some_iff.mp h
        refine ru_callV (tm_X10_get hl0 (by omega) hq4) dX2_place_113 rfl pm_X2_40 mf_X10_get (ab_rcv_of hrc rfl) rfl rfl (Nat.le_of_ble_eq_true rfl) ?_
        refine ru_icmp_gt (tgt := 183) dX2_place_116 (by decide) (fun hc => ?_) (fun hc => ?_)
        · rw [if_pos hc] at h
          exact ru_pick [0, 1, 2, 3, 5, 6, 7, 8] rfl (tbb_X2_place_183 hl0 hd _ _ hc_X2_place ih _ _ _ _ _ _ _ _ _ _ h)
        · rw [if_neg hc] at h
          refine ru_aload dX2_place_119 rfl <| ru_iload dX2_place_121 rfl <| ru_iconst dX2_place_123 kc_i_0 <| ru_iload dX2_place_124 rfl <| ru_ineg dX2_place_126 <| ?_
          obtain ⟨_, hrc, h⟩ := Option.bind_eq_some_iff.mp h
          obtain ⟨q5, hq5, h⟩ := Option.bind_eq_some_iff.mp h
          refine ru_callV (tm_X10_add hl0 (by omega) hq5) dX2_place_127 rfl pm_X2_70 mf_X10_add (ab_rcv_of hrc rfl) rfl rfl (Nat.le_of_ble_eq_true rfl) ?_
          refine ru_aload dX2_place_130 rfl <| ru_iload dX2_place_132 rfl <| ru_iconst dX2_place_134 kc_i_1 <| ru_iload dX2_place_135 rfl <| ru_ineg dX2_place_137 <| ?_
          obtain ⟨_, hrc, h⟩ := Option.bind_eq_some_iff.mp h
          obtain ⟨q6, hq6, h⟩ := Option.bind_eq_some_iff.mp h
          refine ru_callV (tm_X10_add hl0 (by omega) hq6) dX2_place_138 rfl pm_X2_70 mf_X10_add (ab_rcv_of hrc rfl) rfl rfl (Nat.le_of_ble_eq_true rfl) ?_
          refine ru_aload_n (i := 0) dX2_place_141 rfl rfl <| ?_
          refine ru_getR h dX2_place_142 lk_X2_15 ?_
          intro v7 h
          refine ru_iload_n (i := 3) dX2_place_145 rfl rfl <| ru_iload dX2_place_146 rfl <| ?_
          refine ru_iastore h dX2_place_148 ?_
          intro m8 h
          refine ru_aload_n (i := 0) dX2_place_149 rfl rfl <| ru_aload_n (i := 1) dX2_place_150 rfl rfl <| ru_aload_n (i := 2) dX2_place_151 rfl rfl <| ru_iload_n (i := 3) dX2_place_152 rfl rfl <| ru_iconst dX2_place_153 kc_i_1 <| ru_iadd dX2_place_154 <| ?_
          obtain ⟨q9, hq9, h⟩ := Option.bind_eq_some_iff.mp h
          refine ru_callS (hc_X2_place _ _ _ _ _ _ hq9) dX2_place_155 rfl pm_X2_60 mf_X2_place rfl rfl (Nat.le_of_ble_eq_true rfl) ?_
          refine ru_if_eq (tgt := 163) dX2_place_158 (by decide) (fun hc => ?_) (fun hc => ?_)
          · rw [if_pos hc] at h
            refine ru_aload dX2_place_163 rfl <| ru_iload dX2_place_165 rfl <| ru_iconst dX2_place_167 kc_i_0 <| ru_iload dX2_place_168 rfl <| ?_
            obtain ⟨_, hrc, h⟩ := Option.bind_eq_some_iff.mp h
            obtain ⟨q10, hq10, h⟩ := Option.bind_eq_some_iff.mp h
            refine ru_callV (tm_X10_add hl0 (by omega) hq10) dX2_place_170 rfl pm_X2_70 mf_X10_add (ab_rcv_of hrc rfl) rfl rfl (Nat.le_of_ble_eq_true rfl) ?_
            refine ru_aload dX2_place_173 rfl <| ru_iload dX2_place_175 rfl <| ru_iconst dX2_place_177 kc_i_1 <| ru_iload dX2_place_178 rfl <| ?_
            obtain ⟨_, hrc, h⟩ := Option.bind_eq_some_iff.mp h
            obtain ⟨q11, hq11, h⟩ := Option.bind_eq_some_iff.mp h
            refine ru_callV (tm_X10_add hl0 (by omega) hq11) dX2_place_180 rfl pm_X2_70 mf_X10_add (ab_rcv_of hrc rfl) rfl rfl (Nat.le_of_ble_eq_true rfl) ?_
            exact ru_pick [0, 1, 2, 3, 5, 6, 7, 8] rfl (tbb_X2_place_183 hl0 hd _ _ hc_X2_place ih _ _ _ _ _ _ _ _ _ _ h)
          · rw [if_neg hc] at h
            refine ru_iconst dX2_place_161 kc_i_1 <| ?_
            cases h
            exact ru_ret (v := some (.int _)) ⟨_, rfl, ab_nz1, dX2_place_162⟩
theorem tbb_X2_place_30 {l : Launch} {g : ab_G} (hl0 : l.stackTraces = false) {d2 : Nat} (hd : 3 ≤ d2 + 1) (c_X2_place : Nat → Nat → Nat → Int32 → ab_Mm → Option (Int32 × ab_Mm)) (hc_X2_place : ∀ (a0 : Nat) (a1 : Nat) (a2 : Nat) (a3 : Int32) (m : ab_Mm) (z : (Int32 × ab_Mm)), c_X2_place a0 a1 a2 a3 m = some z → ab_Met l g yX2_place cX2_place 9 (some .boolean) [] d2 [.ref a0, .ref a1, .ref a2, .int a3] m (.inl (some (.int z.1))) z.2)  (m0 : ab_Mm) (z : (Int32 × ab_Mm)) (h : bb_X2_place_30 c_X2_place  m0 = some z) : ab_W l g cX2_place RX2 9 (some .boolean) [] false (d2 + 1) (.inl (some (.int z.1))) z.2 30 [] [] m0 := by
  unfold bb_X2_place_30 at h
  refine ru_iconst dX2_place_30 kc_i_1 <| ?_
  cases h
  exact ru_ret (v := some (.int _)) ⟨_, rfl, ab_nz1, dX2_place_31⟩
theorem te_X2_place {l : Launch} {g : ab_G} (hl0 : l.stackTraces = false) {d2 : Nat} (hd : 3 ≤ d2 + 1) (c_X2_place : Nat → Nat → Nat → Int32 → ab_Mm → Option (Int32 × ab_Mm)) (hc_X2_place : ∀ (a0 : Nat) (a1 : Nat) (a2 : Nat) (a3 : Int32) (m : ab_Mm) (z : (Int32 × ab_Mm)), c_X2_place a0 a1 a2 a3 m = some z → ab_Met l g yX2_place cX2_place 9 (some .boolean) [] d2 [.ref a0, .ref a1, .ref a2, .int a3] m (.inl (some (.int z.1))) z.2) (l0 : Nat) (l1 : Nat) (l2 : Nat) (l3 : Int32) (m0 : ab_Mm) (z : (Int32 × ab_Mm)) (h : st_X2_place c_X2_place l0 l1 l2 l3 m0 = some z) : ab_W l g cX2_place RX2 9 (some .boolean) [] false (d2 + 1) (.inl (some (.int z.1))) z.2 0 [(0, .ref l0), (1, .ref l1), (2, .ref l2), (3, .int l3)] [] m0 := by
  unfold st_X2_place at h
  refine ru_iload_n (i := 3) dX2_place_0 rfl rfl <| ?_
  refine ru_if_lt (tgt := 30) dX2_place_1 (by decide) (fun hc => ?_) (fun hc => ?_)
  · rw [if_pos hc] at h
    exact ru_pick [] rfl (tbb_X2_place_30 hl0 hd _ hc_X2_place  _ _ h)
  · rw [if_neg hc] at h
    refine ru_iload_n (i := 3) dX2_place_4 rfl rfl <| ru_aload_n (i := 0) dX2_place_5 rfl rfl <| ?_
    refine ru_getI h dX2_place_6 lk_X2_18 ?_
    intro v1 h
    refine ru_icmp_ge (tgt := 30) dX2_place_9 (by decide) (fun hc => ?_) (fun hc => ?_)
    · rw [if_pos hc] at h
      exact ru_pick [] rfl (tbb_X2_place_30 hl0 hd _ hc_X2_place  _ _ h)
    · rw [if_neg hc] at h
      refine ru_iload_n (i := 3) dX2_place_12 rfl rfl <| ru_aload_n (i := 0) dX2_place_13 rfl rfl <| ?_
      refine ru_getR h dX2_place_14 lk_X2_9 ?_
      intro v2 h
      refine ru_alen 0 h dX2_place_17 ?_
      intro v3 h
      refine ru_icmp_ge (tgt := 30) dX2_place_18 (by decide) (fun hc => ?_) (fun hc => ?_)
      · rw [if_pos hc] at h
        exact ru_pick [] rfl (tbb_X2_place_30 hl0 hd _ hc_X2_place  _ _ h)
      · rw [if_neg hc] at h
        refine ru_iload_n (i := 3) dX2_place_21 rfl rfl <| ru_aload_n (i := 0) dX2_place_22 rfl rfl <| ?_
        refine ru_getR h dX2_place_23 lk_X2_15 ?_
        intro v4 h
        refine ru_alen 0 h dX2_place_26 ?_
        intro v5 h
        refine ru_icmp_lt (tgt := 32) dX2_place_27 (by decide) (fun hc => ?_) (fun hc => ?_)
        · rw [if_pos hc] at h
          refine ru_aload_n (i := 2) dX2_place_32 rfl rfl <| ?_
          refine ru_getR h dX2_place_33 lk_X2_37 ?_
          intro v6 h
          refine ru_aload_n (i := 0) dX2_place_36 rfl rfl <| ?_
          refine ru_getR h dX2_place_37 lk_X2_9 ?_
          intro v7 h
          refine ru_iload_n (i := 3) dX2_place_40 rfl rfl <| ?_
          refine ru_iaload h dX2_place_41 ?_
          intro v8 h
          refine ru_iconst dX2_place_42 kc_i_1 <| ?_
          obtain ⟨_, hrc, h⟩ := Option.bind_eq_some_iff.mp h
          obtain ⟨q9, hq9, h⟩ := Option.bind_eq_some_iff.mp h
          refine ru_callV (tm_X10_get hl0 (by omega) hq9) dX2_place_43 rfl pm_X2_40 mf_X10_get (ab_rcv_of hrc rfl) rfl rfl (Nat.le_of_ble_eq_true rfl) ?_
          refine ru_istore dX2_place_46 (by decide) <| ru_aload_n (i := 0) dX2_place_48 rfl rfl <| ?_
          refine ru_getR h dX2_place_49 lk_X2_27 ?_
          intro v10 h
          refine ru_astore dX2_place_52 (by decide) <| ru_aload_n (i := 1) dX2_place_54 rfl rfl <| ?_
          refine ru_getR h dX2_place_55 lk_X2_67 ?_
          intro v11 h
          refine ru_iload dX2_place_58 rfl <| ru_iconst dX2_place_60 kc_i_0 <| ?_
          obtain ⟨_, hrc, h⟩ := Option.bind_eq_some_iff.mp h
          obtain ⟨q12, hq12, h⟩ := Option.bind_eq_some_iff.mp h
          refine ru_callV (tm_X10_get hl0 (by omega) hq12) dX2_place_61 rfl pm_X2_40 mf_X10_get (ab_rcv_of hrc rfl) rfl rfl (Nat.le_of_ble_eq_true rfl) ?_
          refine ru_istore dX2_place_64 (by decide) <| ru_aload_n (i := 1) dX2_place_66 rfl rfl <| ?_
          refine ru_getR h dX2_place_67 lk_X2_67 ?_
          intro v13 h
          refine ru_iload dX2_place_70 rfl <| ru_iconst dX2_place_72 kc_i_1 <| ?_
          obtain ⟨_, hrc, h⟩ := Option.bind_eq_some_iff.mp h
          obtain ⟨q14, hq14, h⟩ := Option.bind_eq_some_iff.mp h
          refine ru_callV (tm_X10_get hl0 (by omega) hq14) dX2_place_73 rfl pm_X2_40 mf_X10_get (ab_rcv_of hrc rfl) rfl rfl (Nat.le_of_ble_eq_true rfl) ?_
          refine ru_istore dX2_place_76 (by decide) <| ru_iconst dX2_place_78 kc_i_0 <| ru_istore dX2_place_79 (by decide) <| ?_
          exact ru_pick [0, 1, 2, 3, 5, 6, 7, 8] rfl (tbb_X2_place_81 hl0 hd _ hc_X2_place _ _ _ _ _ _ _ _ _ _ _ h)
        · rw [if_neg hc] at h
          exact ru_pick [] rfl (tbb_X2_place_30 hl0 hd _ hc_X2_place  _ _ h)
theorem tg_X2_place {l : Launch} {g : ab_G} (hl0 : l.stackTraces = false) : ∀ n : Nat, (∀ d, n + 3 ≤ d → ∀ (a0 : Nat) (a1 : Nat) (a2 : Nat) (a3 : Int32) (m : ab_Mm) (z : (Int32 × ab_Mm)), dd_X2_place n a0 a1 a2 a3 m = some z → ab_Met l g yX2_place cX2_place 9 (some .boolean) [] d [.ref a0, .ref a1, .ref a2, .int a3] m (.inl (some (.int z.1))) z.2) ∧ True := by
  intro n
  induction n with
  | zero => exact ⟨fun d hd _ _ _ _ m z h => (by cases h), trivial⟩
  | succ n ih =>
    refine ⟨?_, trivial⟩
    · intro d hd a0 a1 a2 a3 m z h
      obtain ⟨d2, rfl⟩ : ∃ d2, d = d2 + 1 := ⟨d - 1, by omega⟩
      exact ab_of hl0 (by decide +kernel) (Nat.le_of_ble_eq_true rfl) (fun q => by cases q) rfl (te_X2_place hl0 (by omega) _ (fun b0 b1 b2 b3 m z h => ih.1 d2 (by omega) b0 b1 b2 b3 m z h) _ _ _ _ _ _ h)
theorem tm_X2_place {l : Launch} {g : ab_G} (hl0 : l.stackTraces = false) {d : Nat} (hd : 33 ≤ d) {a0 : Nat} {a1 : Nat} {a2 : Nat} {a3 : Int32} {m : ab_Mm} {z : (Int32 × ab_Mm)} (h : dd_X2_place 30 a0 a1 a2 a3 m = some z) : ab_Met l g yX2_place cX2_place 9 (some .boolean) [] d [.ref a0, .ref a1, .ref a2, .int a3] m (.inl (some (.int z.1))) z.2 := (tg_X2_place hl0 30).1 d (by omega) a0 a1 a2 a3 m z h
theorem tbb_X2_plan_164 {l : Launch} {g : ab_G} (hl0 : l.stackTraces = false) {d2 : Nat} (hd : 34 ≤ d2 + 1) (r99 : Nat → Nat → Nat → Int32 → Int32 → ab_Mm → Option (Int32 × ab_Mm)) (hr99 : ∀ (l0 : Nat) (l1 : Nat) (l2 : Nat) (l3 : Int32) (l4 : Int32) (m : ab_Mm) (z : (Int32 × ab_Mm)), r99 l0 l1 l2 l3 l4 m = some z → ab_W l g cX2_plan RX2 6 (some .boolean) [] false (d2 + 1) (.inl (some (.int z.1))) z.2 99 [(0, .ref l0), (1, .ref l1), (2, .ref l2), (3, .int l3), (4, .int l4)] [] m) (l0 : Nat) (l1 : Nat) (l2 : Nat) (l3 : Int32) (l4 : Int32) (s0 : Nat) (s1 : Int32) (s2 : Int32) (s3 : Int32) (m0 : ab_Mm) (z : (Int32 × ab_Mm)) (h : bb_X2_plan_164 r99 l0 l1 l2 l3 l4 s0 s1 s2 s3 m0 = some z) : ab_W l g cX2_plan RX2 6 (some .boolean) [] false (d2 + 1) (.inl (some (.int z.1))) z.2 164 [(0, .ref l0), (1, .ref l1), (2, .ref l2), (3, .int l3), (4, .int l4)] [.int s3, .int s2, .int s1, .ref s0] m0 := by
  unfold bb_X2_plan_164 at h
  obtain ⟨_, hrc, h⟩ := Option.bind_eq_some_iff.mp h
  obtain ⟨q1, hq1, h⟩ := Option.bind_eq_some_iff.mp h
  refine ru_callV (tm_X10_set hl0 (by omega) hq1) dX2_plan_164 rfl pm_X2_56 mf_X10_set (ab_rcv_of hrc rfl) rfl rfl (Nat.le_of_ble_eq_true rfl) ?_
  refine ru_iinc dX2_plan_167 (by decide) rfl (ab_inc kc_i_1) <| ru_goto (tgt := 99) dX2_plan_170 (by decide) <| ?_
  exact ru_pick [0, 1, 2, 3, 4] rfl (hr99 _ _ _ _ _ _ _ h)
theorem tbb_X2_plan_136 {l : Launch} {g : ab_G} (hl0 : l.stackTraces = false) {d2 : Nat} (hd : 34 ≤ d2 + 1) (r99 : Nat → Nat → Nat → Int32 → Int32 → ab_Mm → Option (Int32 × ab_Mm)) (hr99 : ∀ (l0 : Nat) (l1 : Nat) (l2 : Nat) (l3 : Int32) (l4 : Int32) (m : ab_Mm) (z : (Int32 × ab_Mm)), r99 l0 l1 l2 l3 l4 m = some z → ab_W l g cX2_plan RX2 6 (some .boolean) [] false (d2 + 1) (.inl (some (.int z.1))) z.2 99 [(0, .ref l0), (1, .ref l1), (2, .ref l2), (3, .int l3), (4, .int l4)] [] m) (l0 : Nat) (l1 : Nat) (l2 : Nat) (l3 : Int32) (l4 : Int32) (s0 : Nat) (s1 : Int32) (s2 : Int32) (s3 : Int32) (m0 : ab_Mm) (z : (Int32 × ab_Mm)) (h : bb_X2_plan_136 r99 l0 l1 l2 l3 l4 s0 s1 s2 s3 m0 = some z) : ab_W l g cX2_plan RX2 6 (some .boolean) [] false (d2 + 1) (.inl (some (.int z.1))) z.2 136 [(0, .ref l0), (1, .ref l1), (2, .ref l2), (3, .int l3), (4, .int l4)] [.int s3, .int s2, .int s1, .ref s0] m0 := by
  unfold bb_X2_plan_136 at h
  obtain ⟨_, hrc, h⟩ := Option.bind_eq_some_iff.mp h
  obtain ⟨q1, hq1, h⟩ := Option.bind_eq_some_iff.mp h
  refine ru_callV (tm_X10_set hl0 (by omega) hq1) dX2_plan_136 rfl pm_X2_56 mf_X10_set (ab_rcv_of hrc rfl) rfl rfl (Nat.le_of_ble_eq_true rfl) ?_
  refine ru_aload_n (i := 0) dX2_plan_139 rfl rfl <| ?_
  refine ru_getR h dX2_plan_140 lk_X2_27 ?_
  intro v2 h
  refine ru_iload dX2_plan_143 rfl <| ru_iconst dX2_plan_145 kc_i_1 <| ru_iload dX2_plan_146 rfl <| ru_iload_n (i := 3) dX2_plan_148 rfl rfl <| ?_
  refine ru_icmp_ne (tgt := 156) dX2_plan_149 (by decide) (fun hc => ?_) (fun hc => ?_)
  · rw [if_neg hc] at h
    refine ru_aload_n (i := 2) dX2_plan_156 rfl rfl <| ru_aload_n (i := 1) dX2_plan_157 rfl rfl <| ru_iload dX2_plan_158 rfl <| ru_iconst dX2_plan_160 kc_i_1 <| ?_
    obtain ⟨_, hrc, h⟩ := Option.bind_eq_some_iff.mp h
    obtain ⟨q3, hq3, h⟩ := Option.bind_eq_some_iff.mp h
    refine ru_callV (tm_X8_left hl0 (by omega) hq3) dX2_plan_161 rfl pm_X2_52 mf_X8_left (ab_rcv_of hrc rfl) rfl rfl (Nat.le_of_ble_eq_true rfl) ?_
    exact ru_pick [0, 1, 2, 3, 4] rfl (tbb_X2_plan_164 hl0 hd _ hr99 _ _ _ _ _ _ _ _ _ _ _ h)
  · rw [if_pos hc] at h
    refine ru_iconst dX2_plan_152 kc_i_0 <| ru_goto (tgt := 164) dX2_plan_153 (by decide) <| ?_
    exact ru_pick [0, 1, 2, 3, 4] rfl (tbb_X2_plan_164 hl0 hd _ hr99 _ _ _ _ _ _ _ _ _ _ _ h)
theorem tbb_X2_plan_99 {l : Launch} {g : ab_G} (hl0 : l.stackTraces = false) {d2 : Nat} (hd : 34 ≤ d2 + 1)   : ∀ (n : Nat) (l0 : Nat) (l1 : Nat) (l2 : Nat) (l3 : Int32) (l4 : Int32) (m0 : ab_Mm) (z : (Int32 × ab_Mm)), bb_X2_plan_99  n l0 l1 l2 l3 l4 m0 = some z → ab_W l g cX2_plan RX2 6 (some .boolean) [] false (d2 + 1) (.inl (some (.int z.1))) z.2 99 [(0, .ref l0), (1, .ref l1), (2, .ref l2), (3, .int l3), (4, .int l4)] [] m0 := by
  intro n
  induction n with
  | zero => intro l0 l1 l2 l3 l4 m0 z h; cases h
  | succ n ih =>
    intro l0 l1 l2 l3 l4 m0 z h
    rw [bb_X2_plan_99] at h
    refine ru_iload dX2_plan_99 rfl <| ru_aload_n (i := 1) dX2_plan_101 rfl rfl <| ?_
    refine ru_getR h dX2_plan_102 lk_X2_44 ?_
    intro v1 h
    refine ru_getI h dX2_plan_105 lk_X2_49 ?_
    intro v2 h
    refine ru_icmp_ge (tgt := 173) dX2_plan_108 (by decide) (fun hc => ?_) (fun hc => ?_)
    · rw [if_pos hc] at h
      refine ru_aload_n (i := 0) dX2_plan_173 rfl rfl <| ru_aload_n (i := 1) dX2_plan_174 rfl rfl <| ru_aload_n (i := 2) dX2_plan_175 rfl rfl <| ru_iconst dX2_plan_176 kc_i_0 <| ?_
      obtain ⟨q3, hq3, h⟩ := Option.bind_eq_some_iff.mp h
      refine ru_callS (tm_X2_place hl0 (by omega) hq3) dX2_plan_177 rfl pm_X2_60 mf_X2_place rfl rfl (Nat.le_of_ble_eq_true rfl) ?_
      rcases ab_iff h with ⟨hc, h⟩ | ⟨hc, h⟩
      · cases h
      cases h
      exact ru_ret (v := some (.int _)) ⟨_, rfl, congrArg Value.int (Classical.not_not.mp hc), dX2_plan_180⟩
    · rw [if_neg hc] at h
      refine ru_aload_n (i := 0) dX2_plan_111 rfl rfl <| ?_
      refine ru_getR h dX2_plan_112 lk_X2_27 ?_
      intro v4 h
      refine ru_iload dX2_plan_115 rfl <| ru_iconst dX2_plan_117 kc_i_0 <| ru_iload dX2_plan_118 rfl <| ru_iload_n (i := 3) dX2_plan_120 rfl rfl <| ?_
      refine ru_icmp_ne (tgt := 128) dX2_plan_121 (by decide) (fun hc => ?_) (fun hc => ?_)
      · rw [if_neg hc] at h
        refine ru_aload_n (i := 2) dX2_plan_128 rfl rfl <| ru_aload_n (i := 1) dX2_plan_129 rfl rfl <| ru_iload dX2_plan_130 rfl <| ru_iconst dX2_plan_132 kc_i_0 <| ?_
        obtain ⟨_, hrc, h⟩ := Option.bind_eq_some_iff.mp h
        obtain ⟨q5, hq5, h⟩ := Option.bind_eq_some_iff.mp h
        refine ru_callV (tm_X8_left hl0 (by omega) hq5) dX2_plan_133 rfl pm_X2_52 mf_X8_left (ab_rcv_of hrc rfl) rfl rfl (Nat.le_of_ble_eq_true rfl) ?_
        exact ru_pick [0, 1, 2, 3, 4] rfl (tbb_X2_plan_136 hl0 hd _ ih _ _ _ _ _ _ _ _ _ _ _ h)
      · rw [if_pos hc] at h
        refine ru_iconst dX2_plan_124 kc_i_0 <| ru_goto (tgt := 136) dX2_plan_125 (by decide) <| ?_
        exact ru_pick [0, 1, 2, 3, 4] rfl (tbb_X2_plan_136 hl0 hd _ ih _ _ _ _ _ _ _ _ _ _ _ h)
theorem tbb_X2_plan_90 {l : Launch} {g : ab_G} (hl0 : l.stackTraces = false) {d2 : Nat} (hd : 34 ≤ d2 + 1) (r8 : Nat → Nat → Nat → Int32 → Int32 → ab_Mm → Option (Int32 × ab_Mm)) (hr8 : ∀ (l0 : Nat) (l1 : Nat) (l2 : Nat) (l3 : Int32) (l4 : Int32) (m : ab_Mm) (z : (Int32 × ab_Mm)), r8 l0 l1 l2 l3 l4 m = some z → ab_W l g cX2_plan RX2 6 (some .boolean) [] false (d2 + 1) (.inl (some (.int z.1))) z.2 8 [(0, .ref l0), (1, .ref l1), (2, .ref l2), (3, .int l3), (4, .int l4)] [] m) (l0 : Nat) (l1 : Nat) (l2 : Nat) (l3 : Int32) (l4 : Int32) (m0 : ab_Mm) (z : (Int32 × ab_Mm)) (h : bb_X2_plan_90 r8 l0 l1 l2 l3 l4 m0 = some z) : ab_W l g cX2_plan RX2 6 (some .boolean) [] false (d2 + 1) (.inl (some (.int z.1))) z.2 90 [(0, .ref l0), (1, .ref l1), (2, .ref l2), (3, .int l3), (4, .int l4)] [] m0 := by
  unfold bb_X2_plan_90 at h
  refine ru_iinc dX2_plan_90 (by decide) rfl (ab_inc kc_i_1) <| ru_goto (tgt := 8) dX2_plan_93 (by decide) <| ?_
  exact ru_pick [0, 1, 2, 3, 4] rfl (hr8 _ _ _ _ _ _ _ h)
theorem tbb_X2_plan_43 {l : Launch} {g : ab_G} (hl0 : l.stackTraces = false) {d2 : Nat} (hd : 34 ≤ d2 + 1) (r8 : Nat → Nat → Nat → Int32 → Int32 → ab_Mm → Option (Int32 × ab_Mm)) (hr8 : ∀ (l0 : Nat) (l1 : Nat) (l2 : Nat) (l3 : Int32) (l4 : Int32) (m : ab_Mm) (z : (Int32 × ab_Mm)), r8 l0 l1 l2 l3 l4 m = some z → ab_W l g cX2_plan RX2 6 (some .boolean) [] false (d2 + 1) (.inl (some (.int z.1))) z.2 8 [(0, .ref l0), (1, .ref l1), (2, .ref l2), (3, .int l3), (4, .int l4)] [] m) (l0 : Nat) (l1 : Nat) (l2 : Nat) (l3 : Int32) (l4 : Int32) (s0 : Int32) (m0 : ab_Mm) (z : (Int32 × ab_Mm)) (h : bb_X2_plan_43 r8 l0 l1 l2 l3 l4 s0 m0 = some z) : ab_W l g cX2_plan RX2 6 (some .boolean) [] false (d2 + 1) (.inl (some (.int z.1))) z.2 43 [(0, .ref l0), (1, .ref l1), (2, .ref l2), (3, .int l3), (4, .int l4)] [.int s0] m0 := by
  unfold bb_X2_plan_43 at h
  refine ru_istore dX2_plan_43 (by decide) <| ru_iload dX2_plan_45 rfl <| ?_
  refine ru_if_eq (tgt := 90) dX2_plan_47 (by decide) (fun hc => ?_) (fun hc => ?_)
  · rw [if_pos hc] at h
    exact ru_pick [0, 1, 2, 3, 4] rfl (tbb_X2_plan_90 hl0 hd _ hr8 _ _ _ _ _ _ _ h)
  · rw [if_neg hc] at h
    refine ru_aload_n (i := 0) dX2_plan_50 rfl rfl <| ?_
    refine ru_getI h dX2_plan_51 lk_X2_18 ?_
    intro v1 h
    refine ru_if_lt (tgt := 90) dX2_plan_54 (by decide) (fun hc => ?_) (fun hc => ?_)
    · rw [if_pos hc] at h
      exact ru_pick [0, 1, 2, 3, 4] rfl (tbb_X2_plan_90 hl0 hd _ hr8 _ _ _ _ _ _ _ h)
    · rw [if_neg hc] at h
      refine ru_aload_n (i := 0) dX2_plan_57 rfl rfl <| ?_
      refine ru_getI h dX2_plan_58 lk_X2_18 ?_
      intro v2 h
      refine ru_aload_n (i := 0) dX2_plan_61 rfl rfl <| ?_
      refine ru_getR h dX2_plan_62 lk_X2_9 ?_
      intro v3 h
      refine ru_alen 0 h dX2_plan_65 ?_
      intro v4 h
      refine ru_icmp_ge (tgt := 90) dX2_plan_66 (by decide) (fun hc => ?_) (fun hc => ?_)
      · rw [if_pos hc] at h
        exact ru_pick [0, 1, 2, 3, 4] rfl (tbb_X2_plan_90 hl0 hd _ hr8 _ _ _ _ _ _ _ h)
      · rw [if_neg hc] at h
        refine ru_aload_n (i := 0) dX2_plan_69 rfl rfl <| ?_
        refine ru_getR h dX2_plan_70 lk_X2_9 ?_
        intro v5 h
        refine ru_aload_n (i := 0) dX2_plan_73 rfl rfl <| ?_
        refine ru_getI h dX2_plan_74 lk_X2_18 ?_
        intro v6 h
        refine ru_iload dX2_plan_77 rfl <| ?_
        refine ru_iastore h dX2_plan_79 ?_
        intro m7 h
        refine ru_aload_n (i := 0) dX2_plan_80 rfl rfl <| ru_dup dX2_plan_81 rfl <| ?_
        refine ru_getI h dX2_plan_82 lk_X2_18 ?_
        intro v8 h
        refine ru_iconst dX2_plan_85 kc_i_1 <| ru_iadd dX2_plan_86 <| ?_
        refine ru_putI h dX2_plan_87 lk_X2_18 ?_
        intro m9 h
        exact ru_pick [0, 1, 2, 3, 4] rfl (tbb_X2_plan_90 hl0 hd _ hr8 _ _ _ _ _ _ _ h)
theorem tbb_X2_plan_42 {l : Launch} {g : ab_G} (hl0 : l.stackTraces = false) {d2 : Nat} (hd : 34 ≤ d2 + 1) (r8 : Nat → Nat → Nat → Int32 → Int32 → ab_Mm → Option (Int32 × ab_Mm)) (hr8 : ∀ (l0 : Nat) (l1 : Nat) (l2 : Nat) (l3 : Int32) (l4 : Int32) (m : ab_Mm) (z : (Int32 × ab_Mm)), r8 l0 l1 l2 l3 l4 m = some z → ab_W l g cX2_plan RX2 6 (some .boolean) [] false (d2 + 1) (.inl (some (.int z.1))) z.2 8 [(0, .ref l0), (1, .ref l1), (2, .ref l2), (3, .int l3), (4, .int l4)] [] m) (l0 : Nat) (l1 : Nat) (l2 : Nat) (l3 : Int32) (l4 : Int32) (m0 : ab_Mm) (z : (Int32 × ab_Mm)) (h : bb_X2_plan_42 r8 l0 l1 l2 l3 l4 m0 = some z) : ab_W l g cX2_plan RX2 6 (some .boolean) [] false (d2 + 1) (.inl (some (.int z.1))) z.2 42 [(0, .ref l0), (1, .ref l1), (2, .ref l2), (3, .int l3), (4, .int l4)] [] m0 := by
  unfold bb_X2_plan_42 at h
  refine ru_iconst dX2_plan_42 kc_i_0 <| ?_
  exact ru_pick [0, 1, 2, 3, 4] rfl (tbb_X2_plan_43 hl0 hd _ hr8 _ _ _ _ _ _ _ _ h)
theorem tbb_X2_plan_8 {l : Launch} {g : ab_G} (hl0 : l.stackTraces = false) {d2 : Nat} (hd : 34 ≤ d2 + 1)   : ∀ (n : Nat) (l0 : Nat) (l1 : Nat) (l2 : Nat) (l3 : Int32) (l4 : Int32) (m0 : ab_Mm) (z : (Int32 × ab_Mm)), bb_X2_plan_8  n l0 l1 l2 l3 l4 m0 = some z → ab_W l g cX2_plan RX2 6 (some .boolean) [] false (d2 + 1) (.inl (some (.int z.1))) z.2 8 [(0, .ref l0), (1, .ref l1), (2, .ref l2), (3, .int l3), (4, .int l4)] [] m0 := by
  intro n
  induction n with
  | zero => intro l0 l1 l2 l3 l4 m0 z h; cases h
  | succ n ih =>
    intro l0 l1 l2 l3 l4 m0 z h
    rw [bb_X2_plan_8] at h
    refine ru_iload dX2_plan_8 rfl <| ru_bipush dX2_plan_10 kc_b_12 <| ?_
    refine ru_icmp_ge (tgt := 96) dX2_plan_12 (by decide) (fun hc => ?_) (fun hc => ?_)
    · rw [if_pos hc] at h
      refine ru_iconst dX2_plan_96 kc_i_0 <| ru_istore dX2_plan_97 (by decide) <| ?_
      exact ru_pick [0, 1, 2, 3, 4] rfl (tbb_X2_plan_99 hl0 hd   _ _ _ _ _ _ _ _ h)
    · rw [if_neg hc] at h
      refine ru_aload_n (i := 2) dX2_plan_15 rfl rfl <| ru_iload dX2_plan_16 rfl <| ?_
      obtain ⟨_, hrc, h⟩ := Option.bind_eq_some_iff.mp h
      obtain ⟨q1, hq1, h⟩ := Option.bind_eq_some_iff.mp h
      refine ru_callV (tm_X8_runs hl0 (by omega) hq1) dX2_plan_18 rfl pm_X2_31 mf_X8_runs (ab_rcv_of hrc rfl) rfl rfl (Nat.le_of_ble_eq_true rfl) ?_
      refine ru_if_eq (tgt := 42) dX2_plan_21 (by decide) (fun hc => ?_) (fun hc => ?_)
      · rw [if_pos hc] at h
        exact ru_pick [0, 1, 2, 3, 4] rfl (tbb_X2_plan_42 hl0 hd _ ih _ _ _ _ _ _ _ h)
      · rw [if_neg hc] at h
        refine ru_aload_n (i := 2) dX2_plan_24 rfl rfl <| ?_
        refine ru_getR h dX2_plan_25 lk_X2_37 ?_
        intro v2 h
        refine ru_iload dX2_plan_28 rfl <| ru_iconst dX2_plan_30 kc_i_3 <| ?_
        obtain ⟨_, hrc, h⟩ := Option.bind_eq_some_iff.mp h
        obtain ⟨q3, hq3, h⟩ := Option.bind_eq_some_iff.mp h
        refine ru_callV (tm_X10_get hl0 (by omega) hq3) dX2_plan_31 rfl pm_X2_40 mf_X10_get (ab_rcv_of hrc rfl) rfl rfl (Nat.le_of_ble_eq_true rfl) ?_
        refine ru_iload_n (i := 3) dX2_plan_34 rfl rfl <| ?_
        refine ru_icmp_ne (tgt := 42) dX2_plan_35 (by decide) (fun hc => ?_) (fun hc => ?_)
        · rw [if_neg hc] at h
          exact ru_pick [0, 1, 2, 3, 4] rfl (tbb_X2_plan_42 hl0 hd _ ih _ _ _ _ _ _ _ h)
        · rw [if_pos hc] at h
          refine ru_iconst dX2_plan_38 kc_i_1 <| ru_goto (tgt := 43) dX2_plan_39 (by decide) <| ?_
          exact ru_pick [0, 1, 2, 3, 4] rfl (tbb_X2_plan_43 hl0 hd _ ih _ _ _ _ _ _ _ _ h)
theorem te_X2_plan {l : Launch} {g : ab_G} (hl0 : l.stackTraces = false) {d2 : Nat} (hd : 34 ≤ d2 + 1)   (l0 : Nat) (l1 : Nat) (l2 : Nat) (l3 : Int32) (m0 : ab_Mm) (z : (Int32 × ab_Mm)) (h : dd_X2_plan  l0 l1 l2 l3 m0 = some z) : ab_W l g cX2_plan RX2 6 (some .boolean) [] false (d2 + 1) (.inl (some (.int z.1))) z.2 0 [(0, .ref l0), (1, .ref l1), (2, .ref l2), (3, .int l3)] [] m0 := by
  unfold dd_X2_plan at h
  refine ru_aload_n (i := 0) dX2_plan_0 rfl rfl <| ru_iconst dX2_plan_1 kc_i_0 <| ?_
  refine ru_putI h dX2_plan_2 lk_X2_18 ?_
  intro m1 h
  refine ru_iconst dX2_plan_5 kc_i_0 <| ru_istore dX2_plan_6 (by decide) <| ?_
  exact ru_pick [0, 1, 2, 3, 4] rfl (tbb_X2_plan_8 hl0 hd   _ _ _ _ _ _ _ _ h)
theorem tm_X2_plan {l : Launch} {g : ab_G} (hl0 : l.stackTraces = false) {d : Nat} (hd : 34 ≤ d) {l0 : Nat} {l1 : Nat} {l2 : Nat} {l3 : Int32} {m : ab_Mm} {z : (Int32 × ab_Mm)} (h : dd_X2_plan l0 l1 l2 l3 m = some z) : ab_Met l g yX2_plan cX2_plan 6 (some .boolean) [] d [.ref l0, .ref l1, .ref l2, .int l3] m (.inl (some (.int z.1))) z.2 := by
  obtain ⟨d2, rfl⟩ : ∃ d2, d = d2 + 1 := ⟨d - 1, by omega⟩
  exact ab_of hl0 (by decide +kernel) (Nat.le_of_ble_eq_true rfl) (fun q => by cases q) rfl (te_X2_plan hl0 hd _ _ _ _ _ _ h)
theorem tbb_X2_targetOf_51 {l : Launch} {g : ab_G} (hl0 : l.stackTraces = false) {d2 : Nat} (hd : 1 ≤ d2 + 1)    (m0 : ab_Mm) (z : (Int32 × ab_Mm)) (h : bb_X2_targetOf_51   m0 = some z) : ab_W l g cX2_targetOf RX2 3 (some .int) [] false (d2 + 1) (.inl (some (.int z.1))) z.2 51 [] [] m0 := by
  unfold bb_X2_targetOf_51 at h
  refine ru_iconst dX2_targetOf_51 kc_i_m1 <| ?_
  cases h
  exact ru_ret (v := some (.int _)) ⟨_, rfl, rfl, dX2_targetOf_52⟩
theorem tbb_X2_targetOf_2 {l : Launch} {g : ab_G} (hl0 : l.stackTraces = false) {d2 : Nat} (hd : 1 ≤ d2 + 1)   : ∀ (n : Nat) (l0 : Nat) (l1 : Int32) (l2 : Int32) (m0 : ab_Mm) (z : (Int32 × ab_Mm)), bb_X2_targetOf_2  n l0 l1 l2 m0 = some z → ab_W l g cX2_targetOf RX2 3 (some .int) [] false (d2 + 1) (.inl (some (.int z.1))) z.2 2 [(0, .ref l0), (1, .int l1), (2, .int l2)] [] m0 := by
  intro n
  induction n with
  | zero => intro l0 l1 l2 m0 z h; cases h
  | succ n ih =>
    intro l0 l1 l2 m0 z h
    rw [bb_X2_targetOf_2] at h
    refine ru_iload_n (i := 2) dX2_targetOf_2 rfl rfl <| ru_aload_n (i := 0) dX2_targetOf_3 rfl rfl <| ?_
    refine ru_getI h dX2_targetOf_4 lk_X2_18 ?_
    intro v1 h
    refine ru_icmp_ge (tgt := 51) dX2_targetOf_7 (by decide) (fun hc => ?_) (fun hc => ?_)
    · rw [if_pos hc] at h
      exact ru_pick [] rfl (tbb_X2_targetOf_51 hl0 hd    _ _ h)
    · rw [if_neg hc] at h
      refine ru_iload_n (i := 2) dX2_targetOf_10 rfl rfl <| ru_aload_n (i := 0) dX2_targetOf_11 rfl rfl <| ?_
      refine ru_getR h dX2_targetOf_12 lk_X2_9 ?_
      intro v2 h
      refine ru_alen 0 h dX2_targetOf_15 ?_
      intro v3 h
      refine ru_icmp_ge (tgt := 51) dX2_targetOf_16 (by decide) (fun hc => ?_) (fun hc => ?_)
      · rw [if_pos hc] at h
        exact ru_pick [] rfl (tbb_X2_targetOf_51 hl0 hd    _ _ h)
      · rw [if_neg hc] at h
        refine ru_iload_n (i := 2) dX2_targetOf_19 rfl rfl <| ru_aload_n (i := 0) dX2_targetOf_20 rfl rfl <| ?_
        refine ru_getR h dX2_targetOf_21 lk_X2_15 ?_
        intro v4 h
        refine ru_alen 0 h dX2_targetOf_24 ?_
        intro v5 h
        refine ru_icmp_ge (tgt := 51) dX2_targetOf_25 (by decide) (fun hc => ?_) (fun hc => ?_)
        · rw [if_pos hc] at h
          exact ru_pick [] rfl (tbb_X2_targetOf_51 hl0 hd    _ _ h)
        · rw [if_neg hc] at h
          refine ru_aload_n (i := 0) dX2_targetOf_28 rfl rfl <| ?_
          refine ru_getR h dX2_targetOf_29 lk_X2_9 ?_
          intro v6 h
          refine ru_iload_n (i := 2) dX2_targetOf_32 rfl rfl <| ?_
          refine ru_iaload h dX2_targetOf_33 ?_
          intro v7 h
          refine ru_iload_n (i := 1) dX2_targetOf_34 rfl rfl <| ?_
          refine ru_icmp_ne (tgt := 45) dX2_targetOf_35 (by decide) (fun hc => ?_) (fun hc => ?_)
          · rw [if_neg hc] at h
            refine ru_iinc dX2_targetOf_45 (by decide) rfl (ab_inc kc_i_1) <| ru_goto (tgt := 2) dX2_targetOf_48 (by decide) <| ?_
            exact ru_pick [0, 1, 2] rfl (ih _ _ _ _ _ h)
          · rw [if_pos hc] at h
            refine ru_aload_n (i := 0) dX2_targetOf_38 rfl rfl <| ?_
            refine ru_getR h dX2_targetOf_39 lk_X2_15 ?_
            intro v8 h
            refine ru_iload_n (i := 2) dX2_targetOf_42 rfl rfl <| ?_
            refine ru_iaload h dX2_targetOf_43 ?_
            intro v9 h
            cases h
            exact ru_ret (v := some (.int _)) ⟨_, rfl, rfl, dX2_targetOf_44⟩
theorem te_X2_targetOf {l : Launch} {g : ab_G} (hl0 : l.stackTraces = false) {d2 : Nat} (hd : 1 ≤ d2 + 1)   (l0 : Nat) (l1 : Int32) (m0 : ab_Mm) (z : (Int32 × ab_Mm)) (h : dd_X2_targetOf  l0 l1 m0 = some z) : ab_W l g cX2_targetOf RX2 3 (some .int) [] false (d2 + 1) (.inl (some (.int z.1))) z.2 0 [(0, .ref l0), (1, .int l1)] [] m0 := by
  unfold dd_X2_targetOf at h
  refine ru_iconst dX2_targetOf_0 kc_i_0 <| ru_istore_n (i := 2) dX2_targetOf_1 rfl (by decide) <| ?_
  exact ru_pick [0, 1, 2] rfl (tbb_X2_targetOf_2 hl0 hd   _ _ _ _ _ _ h)
theorem tm_X2_targetOf {l : Launch} {g : ab_G} (hl0 : l.stackTraces = false) {d : Nat} (hd : 1 ≤ d) {l0 : Nat} {l1 : Int32} {m : ab_Mm} {z : (Int32 × ab_Mm)} (h : dd_X2_targetOf l0 l1 m = some z) : ab_Met l g yX2_targetOf cX2_targetOf 3 (some .int) [] d [.ref l0, .int l1] m (.inl (some (.int z.1))) z.2 := by
  obtain ⟨d2, rfl⟩ : ∃ d2, d = d2 + 1 := ⟨d - 1, by omega⟩
  exact ab_of hl0 (by decide +kernel) (Nat.le_of_ble_eq_true rfl) (fun q => by cases q) rfl (te_X2_targetOf hl0 hd _ _ _ _ h)
theorem tbb_X2_carryOut_52 {l : Launch} {g : ab_G} (hl0 : l.stackTraces = false) {d2 : Nat} (hd : 6 ≤ d2 + 1)    (m0 : ab_Mm) (z : (Unit × ab_Mm)) (h : bb_X2_carryOut_52   m0 = some z) : ab_W l g cX2_carryOut RX2 4 none [] false (d2 + 1) (.inl none) z.2 52 [] [] m0 := by
  unfold bb_X2_carryOut_52 at h
  cases h
  exact ru_ret (v := none) ⟨rfl, dX2_carryOut_52⟩
theorem tbb_X2_carryOut_2 {l : Launch} {g : ab_G} (hl0 : l.stackTraces = false) {d2 : Nat} (hd : 6 ≤ d2 + 1)   : ∀ (n : Nat) (l0 : Nat) (l1 : Nat) (l2 : Nat) (l3 : Int32) (m0 : ab_Mm) (z : (Unit × ab_Mm)), bb_X2_carryOut_2  n l0 l1 l2 l3 m0 = some z → ab_W l g cX2_carryOut RX2 4 none [] false (d2 + 1) (.inl none) z.2 2 [(0, .ref l0), (1, .ref l1), (2, .ref l2), (3, .int l3)] [] m0 := by
  intro n
  induction n with
  | zero => intro l0 l1 l2 l3 m0 z h; cases h
  | succ n ih =>
    intro l0 l1 l2 l3 m0 z h
    rw [bb_X2_carryOut_2] at h
    refine ru_iload_n (i := 3) dX2_carryOut_2 rfl rfl <| ru_aload_n (i := 0) dX2_carryOut_3 rfl rfl <| ?_
    refine ru_getI h dX2_carryOut_4 lk_X2_18 ?_
    intro v1 h
    refine ru_icmp_ge (tgt := 52) dX2_carryOut_7 (by decide) (fun hc => ?_) (fun hc => ?_)
    · rw [if_pos hc] at h
      exact ru_pick [] rfl (tbb_X2_carryOut_52 hl0 hd    _ _ h)
    · rw [if_neg hc] at h
      refine ru_iload_n (i := 3) dX2_carryOut_10 rfl rfl <| ru_aload_n (i := 0) dX2_carryOut_11 rfl rfl <| ?_
      refine ru_getR h dX2_carryOut_12 lk_X2_9 ?_
      intro v2 h
      refine ru_alen 0 h dX2_carryOut_15 ?_
      intro v3 h
      refine ru_icmp_ge (tgt := 52) dX2_carryOut_16 (by decide) (fun hc => ?_) (fun hc => ?_)
      · rw [if_pos hc] at h
        exact ru_pick [] rfl (tbb_X2_carryOut_52 hl0 hd    _ _ h)
      · rw [if_neg hc] at h
        refine ru_iload_n (i := 3) dX2_carryOut_19 rfl rfl <| ru_aload_n (i := 0) dX2_carryOut_20 rfl rfl <| ?_
        refine ru_getR h dX2_carryOut_21 lk_X2_15 ?_
        intro v4 h
        refine ru_alen 0 h dX2_carryOut_24 ?_
        intro v5 h
        refine ru_icmp_ge (tgt := 52) dX2_carryOut_25 (by decide) (fun hc => ?_) (fun hc => ?_)
        · rw [if_pos hc] at h
          exact ru_pick [] rfl (tbb_X2_carryOut_52 hl0 hd    _ _ h)
        · rw [if_neg hc] at h
          refine ru_aload_n (i := 2) dX2_carryOut_28 rfl rfl <| ru_aload_n (i := 1) dX2_carryOut_29 rfl rfl <| ru_aload_n (i := 0) dX2_carryOut_30 rfl rfl <| ?_
          refine ru_getR h dX2_carryOut_31 lk_X2_9 ?_
          intro v6 h
          refine ru_iload_n (i := 3) dX2_carryOut_34 rfl rfl <| ?_
          refine ru_iaload h dX2_carryOut_35 ?_
          intro v7 h
          refine ru_aload_n (i := 0) dX2_carryOut_36 rfl rfl <| ?_
          refine ru_getR h dX2_carryOut_37 lk_X2_15 ?_
          intro v8 h
          refine ru_iload_n (i := 3) dX2_carryOut_40 rfl rfl <| ?_
          refine ru_iaload h dX2_carryOut_41 ?_
          intro v9 h
          obtain ⟨_, hrc, h⟩ := Option.bind_eq_some_iff.mp h
          obtain ⟨q10, hq10, h⟩ := Option.bind_eq_some_iff.mp h
          refine ru_callV (tm_X8_moveTo hl0 (by omega) hq10) dX2_carryOut_42 rfl pm_X2_64 mf_X8_moveTo (ab_rcv_of hrc rfl) rfl rfl (Nat.le_of_ble_eq_true rfl) ?_
          refine ru_pop dX2_carryOut_45 rfl <| ru_iinc dX2_carryOut_46 (by decide) rfl (ab_inc kc_i_1) <| ru_goto (tgt := 2) dX2_carryOut_49 (by decide) <| ?_
          exact ru_pick [0, 1, 2, 3] rfl (ih _ _ _ _ _ _ h)
