/-! ===== the methods keep to these functions (by program) ===== -/
theorem te_X11_init {l : Launch} {g : ab_G} (hl0 : l.stackTraces = false) {d2 : Nat} (hd : 6 ≤ d2 + 1)   (l0 : Nat) (m0 : ab_Mm) (z : (Unit × ab_Mm)) (h : dd_X11_init  l0 m0 = some z) : ab_W l g cX11_init RX11 1 none [] true (d2 + 1) (.inl none) z.2 0 [(0, .ref l0)] [] m0 := by
  unfold dd_X11_init at h
  refine ru_aload_n (i := 0) dX11_init_0 rfl rfl <| ru_objInit dX11_init_1 ⟨pm_X11_1, po_inst, po_code⟩ (Nat.le_of_ble_eq_true rfl) <| ru_aload_n (i := 0) dX11_init_4 rfl rfl <| ?_
  refine ru_new h dX11_init_5 nw_X11_7 ?_
  intro q1 h
  refine ru_dup dX11_init_8 rfl <| ?_
  obtain ⟨q2, hq2, h⟩ := Option.bind_eq_some_iff.mp h
  refine ru_callI rfl (tm_X7_init hl0 (by omega) hq2) dX11_init_9 rfl (Or.inr pn_X11_9) mf_X7_init rfl rfl (Nat.le_of_ble_eq_true rfl) ?_
  refine ru_putR h dX11_init_12 lk_X11_10 (fun _ => ⟨rfl, rfl⟩) rfl (fun q hq => by cases hq; rfl) (fun q hq => by cases hq; exact pf_X11_10) ?_
  intro m3 h
  refine ru_aload_n (i := 0) dX11_init_15 rfl rfl <| ?_
  refine ru_new h dX11_init_16 nw_X11_16 ?_
  intro q4 h
  refine ru_dup dX11_init_19 rfl <| ?_
  obtain ⟨q5, hq5, h⟩ := Option.bind_eq_some_iff.mp h
  refine ru_callI rfl (tm_X1_init hl0 (by omega) hq5) dX11_init_20 rfl (Or.inl pm_X11_18) mf_X1_init rfl rfl (Nat.le_of_ble_eq_true rfl) ?_
  refine ru_putR h dX11_init_23 lk_X11_19 (fun _ => ⟨rfl, rfl⟩) rfl (fun q hq => by cases hq; rfl) (fun q hq => by cases hq; exact pf_X11_19) ?_
  intro m6 h
  refine ru_aload_n (i := 0) dX11_init_26 rfl rfl <| ?_
  refine ru_new h dX11_init_27 nw_X11_23 ?_
  intro q7 h
  refine ru_dup dX11_init_30 rfl <| ?_
  obtain ⟨q8, hq8, h⟩ := Option.bind_eq_some_iff.mp h
  refine ru_callI rfl (tm_X8_init hl0 (by omega) hq8) dX11_init_31 rfl (Or.inr pn_X11_25) mf_X8_init rfl rfl (Nat.le_of_ble_eq_true rfl) ?_
  refine ru_putR h dX11_init_34 lk_X11_26 (fun _ => ⟨rfl, rfl⟩) rfl (fun q hq => by cases hq; rfl) (fun q hq => by cases hq; exact pf_X11_26) ?_
  intro m9 h
  refine ru_aload_n (i := 0) dX11_init_37 rfl rfl <| ?_
  refine ru_new h dX11_init_38 nw_X11_23 ?_
  intro q10 h
  refine ru_dup dX11_init_41 rfl <| ?_
  obtain ⟨q11, hq11, h⟩ := Option.bind_eq_some_iff.mp h
  refine ru_callI rfl (tm_X8_init hl0 (by omega) hq11) dX11_init_42 rfl (Or.inr pn_X11_25) mf_X8_init rfl rfl (Nat.le_of_ble_eq_true rfl) ?_
  refine ru_putR h dX11_init_45 lk_X11_30 (fun _ => ⟨rfl, rfl⟩) rfl (fun q hq => by cases hq; rfl) (fun q hq => by cases hq; exact pf_X11_30) ?_
  intro m12 h
  refine ru_aload_n (i := 0) dX11_init_48 rfl rfl <| ?_
  refine ru_new h dX11_init_49 nw_X11_33 ?_
  intro q13 h
  refine ru_dup dX11_init_52 rfl <| ?_
  obtain ⟨q14, hq14, h⟩ := Option.bind_eq_some_iff.mp h
  refine ru_callI rfl (tm_X4_init hl0 (by omega) hq14) dX11_init_53 rfl (Or.inl pm_X11_35) mf_X4_init rfl rfl (Nat.le_of_ble_eq_true rfl) ?_
  refine ru_putR h dX11_init_56 lk_X11_36 (fun _ => ⟨rfl, rfl⟩) rfl (fun q hq => by cases hq; rfl) (fun q hq => by cases hq; exact pf_X11_36) ?_
  intro m15 h
  refine ru_aload_n (i := 0) dX11_init_59 rfl rfl <| ?_
  refine ru_new h dX11_init_60 nw_X11_40 ?_
  intro q16 h
  refine ru_dup dX11_init_63 rfl <| ?_
  obtain ⟨q17, hq17, h⟩ := Option.bind_eq_some_iff.mp h
  refine ru_callI rfl (tm_X0_init hl0 (by omega) hq17) dX11_init_64 rfl (Or.inr pn_X11_42) mf_X0_init rfl rfl (Nat.le_of_ble_eq_true rfl) ?_
  refine ru_putR h dX11_init_67 lk_X11_43 (fun _ => ⟨rfl, rfl⟩) rfl (fun q hq => by cases hq; rfl) (fun q hq => by cases hq; exact pf_X11_43) ?_
  intro m18 h
  refine ru_aload_n (i := 0) dX11_init_70 rfl rfl <| ?_
  refine ru_new h dX11_init_71 nw_X11_47 ?_
  intro q19 h
  refine ru_dup dX11_init_74 rfl <| ?_
  obtain ⟨q20, hq20, h⟩ := Option.bind_eq_some_iff.mp h
  refine ru_callI rfl (tm_X6_init hl0 (by omega) hq20) dX11_init_75 rfl (Or.inr pn_X11_49) mf_X6_init rfl rfl (Nat.le_of_ble_eq_true rfl) ?_
  refine ru_putR h dX11_init_78 lk_X11_50 (fun _ => ⟨rfl, rfl⟩) rfl (fun q hq => by cases hq; rfl) (fun q hq => by cases hq; exact pf_X11_50) ?_
  intro m21 h
  refine ru_aload_n (i := 0) dX11_init_81 rfl rfl <| ?_
  refine ru_new h dX11_init_82 nw_X11_54 ?_
  intro q22 h
  refine ru_dup dX11_init_85 rfl <| ?_
  obtain ⟨q23, hq23, h⟩ := Option.bind_eq_some_iff.mp h
  refine ru_callI rfl (tm_X3_init hl0 (by omega) hq23) dX11_init_86 rfl (Or.inr pn_X11_56) mf_X3_init rfl rfl (Nat.le_of_ble_eq_true rfl) ?_
  refine ru_putR h dX11_init_89 lk_X11_57 (fun _ => ⟨rfl, rfl⟩) rfl (fun q hq => by cases hq; rfl) (fun q hq => by cases hq; exact pf_X11_57) ?_
  intro m24 h
  refine ru_aload_n (i := 0) dX11_init_92 rfl rfl <| ?_
  refine ru_new h dX11_init_93 nw_X11_61 ?_
  intro q25 h
  refine ru_dup dX11_init_96 rfl <| ?_
  obtain ⟨q26, hq26, h⟩ := Option.bind_eq_some_iff.mp h
  refine ru_callI rfl (tm_X2_init hl0 (by omega) hq26) dX11_init_97 rfl (Or.inr pn_X11_63) mf_X2_init rfl rfl (Nat.le_of_ble_eq_true rfl) ?_
  refine ru_putR h dX11_init_100 lk_X11_64 (fun _ => ⟨rfl, rfl⟩) rfl (fun q hq => by cases hq; rfl) (fun q hq => by cases hq; exact pf_X11_64) ?_
  intro m27 h
  cases h
  exact ru_ret (v := none) ⟨rfl, dX11_init_103⟩
theorem tm_X11_init {l : Launch} {g : ab_G} (hl0 : l.stackTraces = false) {d : Nat} (hd : 6 ≤ d) {l0 : Nat} {m : ab_Mm} {z : (Unit × ab_Mm)} (h : dd_X11_init l0 m = some z) : ab_Met l g yX11_init cX11_init 1 none [] d [.ref l0] m (.inl none) z.2 := by
  obtain ⟨d2, rfl⟩ : ∃ d2, d = d2 + 1 := ⟨d - 1, by omega⟩
  exact ab_of hl0 (by decide +kernel) (Nat.le_of_ble_eq_true rfl) (fun _ => rfl) rfl (te_X11_init hl0 hd _ _ _ h)
theorem te_X11_append {l : Launch} {g : ab_G} (hl0 : l.stackTraces = false) {d2 : Nat} (hd : 2 ≤ d2 + 1)   (l0 : Nat) (l1 : Int32) (l2 : Int32) (l3 : Int32) (l4 : Int32) (l5 : Int32) (m0 : ab_Mm) (z : (Int32 × ab_Mm)) (h : dd_X11_append  l0 l1 l2 l3 l4 l5 m0 = some z) : ab_W l g cX11_append RX11 6 (some .int) [] false (d2 + 1) (.inl (some (.int z.1))) z.2 0 [(0, .ref l0), (1, .int l1), (2, .int l2), (3, .int l3), (4, .int l4), (5, .int l5)] [] m0 := by
  unfold dd_X11_append at h
  refine ru_aload_n (i := 0) dX11_append_0 rfl rfl <| ?_
  refine ru_getR h dX11_append_1 lk_X11_10 ?_
  intro v1 h
  refine ru_getI h dX11_append_4 lk_X11_68 ?_
  intro v2 h
  refine ru_bipush dX11_append_7 kc_b_20 <| ru_iadd dX11_append_9 <| ru_sipush dX11_append_10 kc_s_800 <| ?_
  refine ru_icmp_le (tgt := 18) dX11_append_13 (by decide) (fun hc => ?_) (fun hc => ?_)
  · rw [if_pos hc] at h
    refine ru_aload_n (i := 0) dX11_append_18 rfl rfl <| ?_
    refine ru_getR h dX11_append_19 lk_X11_10 ?_
    intro v3 h
    refine ru_iload_n (i := 1) dX11_append_22 rfl rfl <| ?_
    obtain ⟨_, hrc, h⟩ := Option.bind_eq_some_iff.mp h
    obtain ⟨q4, hq4, h⟩ := Option.bind_eq_some_iff.mp h
    refine ru_callV (tm_X7_putWord hl0 (by omega) hq4) dX11_append_23 rfl pm_X11_72 mf_X7_putWord (ab_rcv_of hrc rfl) rfl rfl (Nat.le_of_ble_eq_true rfl) ?_
    refine ru_aload_n (i := 0) dX11_append_26 rfl rfl <| ?_
    refine ru_getR h dX11_append_27 lk_X11_10 ?_
    intro v5 h
    refine ru_iload_n (i := 2) dX11_append_30 rfl rfl <| ?_
    obtain ⟨_, hrc, h⟩ := Option.bind_eq_some_iff.mp h
    obtain ⟨q6, hq6, h⟩ := Option.bind_eq_some_iff.mp h
    refine ru_callV (tm_X7_putWord hl0 (by omega) hq6) dX11_append_31 rfl pm_X11_72 mf_X7_putWord (ab_rcv_of hrc rfl) rfl rfl (Nat.le_of_ble_eq_true rfl) ?_
    refine ru_aload_n (i := 0) dX11_append_34 rfl rfl <| ?_
    refine ru_getR h dX11_append_35 lk_X11_10 ?_
    intro v7 h
    refine ru_iload_n (i := 3) dX11_append_38 rfl rfl <| ?_
    obtain ⟨_, hrc, h⟩ := Option.bind_eq_some_iff.mp h
    obtain ⟨q8, hq8, h⟩ := Option.bind_eq_some_iff.mp h
    refine ru_callV (tm_X7_putWord hl0 (by omega) hq8) dX11_append_39 rfl pm_X11_72 mf_X7_putWord (ab_rcv_of hrc rfl) rfl rfl (Nat.le_of_ble_eq_true rfl) ?_
    refine ru_aload_n (i := 0) dX11_append_42 rfl rfl <| ?_
    refine ru_getR h dX11_append_43 lk_X11_10 ?_
    intro v9 h
    refine ru_iload dX11_append_46 rfl <| ?_
    obtain ⟨_, hrc, h⟩ := Option.bind_eq_some_iff.mp h
    obtain ⟨q10, hq10, h⟩ := Option.bind_eq_some_iff.mp h
    refine ru_callV (tm_X7_putWord hl0 (by omega) hq10) dX11_append_48 rfl pm_X11_72 mf_X7_putWord (ab_rcv_of hrc rfl) rfl rfl (Nat.le_of_ble_eq_true rfl) ?_
    refine ru_aload_n (i := 0) dX11_append_51 rfl rfl <| ?_
    refine ru_getR h dX11_append_52 lk_X11_10 ?_
    intro v11 h
    refine ru_iload dX11_append_55 rfl <| ?_
    obtain ⟨_, hrc, h⟩ := Option.bind_eq_some_iff.mp h
    obtain ⟨q12, hq12, h⟩ := Option.bind_eq_some_iff.mp h
    refine ru_callV (tm_X7_putWord hl0 (by omega) hq12) dX11_append_57 rfl pm_X11_72 mf_X7_putWord (ab_rcv_of hrc rfl) rfl rfl (Nat.le_of_ble_eq_true rfl) ?_
    refine ru_aload_n (i := 0) dX11_append_60 rfl rfl <| ?_
    refine ru_getR h dX11_append_61 lk_X11_10 ?_
    intro v13 h
    refine ru_getI h dX11_append_64 lk_X11_68 ?_
    intro v14 h
    cases h
    exact ru_ret (v := some (.int _)) ⟨_, rfl, rfl, dX11_append_67⟩
  · rw [if_neg hc] at h
    refine ru_iconst dX11_append_16 kc_i_m1 <| ?_
    cases h
    exact ru_ret (v := some (.int _)) ⟨_, rfl, rfl, dX11_append_17⟩
theorem tm_X11_append {l : Launch} {g : ab_G} (hl0 : l.stackTraces = false) {d : Nat} (hd : 2 ≤ d) {l0 : Nat} {l1 : Int32} {l2 : Int32} {l3 : Int32} {l4 : Int32} {l5 : Int32} {m : ab_Mm} {z : (Int32 × ab_Mm)} (h : dd_X11_append l0 l1 l2 l3 l4 l5 m = some z) : ab_Met l g yX11_append cX11_append 6 (some .int) [] d [.ref l0, .int l1, .int l2, .int l3, .int l4, .int l5] m (.inl (some (.int z.1))) z.2 := by
  obtain ⟨d2, rfl⟩ : ∃ d2, d = d2 + 1 := ⟨d - 1, by omega⟩
  exact ab_of hl0 (by decide +kernel) (Nat.le_of_ble_eq_true rfl) (fun q => by cases q) rfl (te_X11_append hl0 hd _ _ _ _ _ _ _ _ h)
theorem tbb_X11_parse_70 {l : Launch} {g : ab_G} (hl0 : l.stackTraces = false) {d2 : Nat} (hd : 40 ≤ d2 + 1)   (l2 : Int32) (m0 : ab_Mm) (z : ((Int32 ⊕ Nat) × ab_Mm)) (h : bb_X11_parse_70  l2 m0 = some z) : ab_W l g cX11_parse RX11 3 (some .int) [] false (d2 + 1) (ab_oxI z.1) z.2 70 [(2, .int l2)] [] m0 := by
  unfold bb_X11_parse_70 at h
  refine ru_iload_n (i := 2) dX11_parse_70 rfl rfl <| ?_
  cases h
  exact ru_ret (v := some (.int _)) ⟨_, rfl, rfl, dX11_parse_71⟩
theorem tbb_X11_parse_15 {l : Launch} {g : ab_G} (hl0 : l.stackTraces = false) {d2 : Nat} (hd : 40 ≤ d2 + 1)    (m0 : ab_Mm) (z : ((Int32 ⊕ Nat) × ab_Mm)) (h : bb_X11_parse_15   m0 = some z) : ab_W l g cX11_parse RX11 3 (some .int) [] false (d2 + 1) (ab_oxI z.1) z.2 15 [] [] m0 := by
  unfold bb_X11_parse_15 at h
  cases h
  exact ru_throwS xk_X11_76_80 (text := "length out of range") (by decide +kernel) (Nat.le_of_ble_eq_true rfl) dX11_parse_15 dX11_parse_18 dX11_parse_19 dX11_parse_21 dX11_parse_24
theorem te_X11_parse {l : Launch} {g : ab_G} (hl0 : l.stackTraces = false) {d2 : Nat} (hd : 40 ≤ d2 + 1)   (l0 : Nat) (l1 : Int32) (m0 : ab_Mm) (z : ((Int32 ⊕ Nat) × ab_Mm)) (h : dd_X11_parse  l0 l1 m0 = some z) : ab_W l g cX11_parse RX11 3 (some .int) [] false (d2 + 1) (ab_oxI z.1) z.2 0 [(0, .ref l0), (1, .int l1)] [] m0 := by
  unfold dd_X11_parse at h
  refine ru_iload_n (i := 1) dX11_parse_0 rfl rfl <| ?_
  refine ru_if_lt (tgt := 15) dX11_parse_1 (by decide) (fun hc => ?_) (fun hc => ?_)
  · rw [if_pos hc] at h
    exact ru_pick [] rfl (tbb_X11_parse_15 hl0 hd    _ _ h)
  · rw [if_neg hc] at h
    refine ru_iload_n (i := 1) dX11_parse_4 rfl rfl <| ru_aload_n (i := 0) dX11_parse_5 rfl rfl <| ?_
    refine ru_getR h dX11_parse_6 lk_X11_10 ?_
    intro v1 h
    refine ru_getI h dX11_parse_9 lk_X11_68 ?_
    intro v2 h
    refine ru_icmp_le (tgt := 25) dX11_parse_12 (by decide) (fun hc => ?_) (fun hc => ?_)
    · rw [if_pos hc] at h
      refine ru_aload_n (i := 0) dX11_parse_25 rfl rfl <| ?_
      refine ru_getR h dX11_parse_26 lk_X11_10 ?_
      intro v3 h
      refine ru_iload_n (i := 1) dX11_parse_29 rfl rfl <| ?_
      obtain ⟨_, hrc, h⟩ := Option.bind_eq_some_iff.mp h
      obtain ⟨q4, hq4, h⟩ := Option.bind_eq_some_iff.mp h
      refine ru_callV (tm_X7_read hl0 (by omega) hq4) dX11_parse_30 rfl pm_X11_83 mf_X7_read (ab_rcv_of hrc rfl) rfl rfl (Nat.le_of_ble_eq_true rfl) ?_
      refine ru_istore_n (i := 2) dX11_parse_33 rfl (by decide) <| ru_iload_n (i := 2) dX11_parse_34 rfl rfl <| ?_
      refine ru_if_ne (tgt := 70) dX11_parse_35 (by decide) (fun hc => ?_) (fun hc => ?_)
      · rw [if_neg hc] at h
        exact ru_pick [2] rfl (tbb_X11_parse_70 hl0 hd   _ _ _ h)
      · rw [if_pos hc] at h
        refine ru_aload_n (i := 0) dX11_parse_38 rfl rfl <| ?_
        refine ru_getR h dX11_parse_39 lk_X11_19 ?_
        intro v5 h
        refine ru_aload_n (i := 0) dX11_parse_42 rfl rfl <| ?_
        refine ru_getR h dX11_parse_43 lk_X11_10 ?_
        intro v6 h
        refine ru_getR h dX11_parse_46 lk_X11_87 ?_
        intro v7 h
        obtain ⟨_, hrc, h⟩ := Option.bind_eq_some_iff.mp h
        obtain ⟨q8, hq8, h⟩ := Option.bind_eq_some_iff.mp h
        refine ru_callV (tm_X1_copyFrom hl0 (by omega) hq8) dX11_parse_49 rfl pm_X11_90 mf_X1_copyFrom (ab_rcv_of hrc rfl) rfl rfl (Nat.le_of_ble_eq_true rfl) ?_
        refine ru_aload_n (i := 0) dX11_parse_52 rfl rfl <| ?_
        refine ru_getR h dX11_parse_53 lk_X11_26 ?_
        intro v9 h
        refine ru_aload_n (i := 0) dX11_parse_56 rfl rfl <| ?_
        refine ru_getR h dX11_parse_57 lk_X11_19 ?_
        intro v10 h
        obtain ⟨_, hrc, h⟩ := Option.bind_eq_some_iff.mp h
        obtain ⟨q11, hq11, h⟩ := Option.bind_eq_some_iff.mp h
        refine ru_callV (tm_X8_reset hl0 (by omega) hq11) dX11_parse_60 rfl pm_X11_94 mf_X8_reset (ab_rcv_of hrc rfl) rfl rfl (Nat.le_of_ble_eq_true rfl) ?_
        refine ru_aload_n (i := 0) dX11_parse_63 rfl rfl <| ?_
        refine ru_getR h dX11_parse_64 lk_X11_36 ?_
        intro v12 h
        obtain ⟨_, hrc, h⟩ := Option.bind_eq_some_iff.mp h
        obtain ⟨q13, hq13, h⟩ := Option.bind_eq_some_iff.mp h
        refine ru_callV (tm_X4_clear hl0 (by omega) hq13) dX11_parse_67 rfl pm_X11_97 mf_X4_clear (ab_rcv_of hrc rfl) rfl rfl (Nat.le_of_ble_eq_true rfl) ?_
        exact ru_pick [2] rfl (tbb_X11_parse_70 hl0 hd   _ _ _ h)
    · rw [if_neg hc] at h
      exact ru_pick [] rfl (tbb_X11_parse_15 hl0 hd    _ _ h)
theorem tm_X11_parse {l : Launch} {g : ab_G} (hl0 : l.stackTraces = false) {d : Nat} (hd : 40 ≤ d) {l0 : Nat} {l1 : Int32} {m : ab_Mm} {z : ((Int32 ⊕ Nat) × ab_Mm)} (h : dd_X11_parse l0 l1 m = some z) : ab_Met l g yX11_parse cX11_parse 3 (some .int) [] d [.ref l0, .int l1] m (ab_oxI z.1) z.2 := by
  obtain ⟨d2, rfl⟩ : ∃ d2, d = d2 + 1 := ⟨d - 1, by omega⟩
  exact ab_of hl0 (by decide +kernel) (Nat.le_of_ble_eq_true rfl) (fun q => by cases q) rfl (te_X11_parse hl0 hd _ _ _ _ h)
theorem te_X11_errorPosition {l : Launch} {g : ab_G} (hl0 : l.stackTraces = false) {d2 : Nat} (hd : 1 ≤ d2 + 1)   (l0 : Nat) (m0 : ab_Mm) (z : (Int32 × ab_Mm)) (h : dd_X11_errorPosition  l0 m0 = some z) : ab_W l g cX11_errorPosition RX11 1 (some .int) [] false (d2 + 1) (.inl (some (.int z.1))) z.2 0 [(0, .ref l0)] [] m0 := by
  unfold dd_X11_errorPosition at h
  refine ru_aload_n (i := 0) dX11_errorPosition_0 rfl rfl <| ?_
  refine ru_getR h dX11_errorPosition_1 lk_X11_10 ?_
  intro v1 h
  refine ru_getI h dX11_errorPosition_4 lk_X11_100 ?_
  intro v2 h
  cases h
  exact ru_ret (v := some (.int _)) ⟨_, rfl, rfl, dX11_errorPosition_7⟩
theorem tm_X11_errorPosition {l : Launch} {g : ab_G} (hl0 : l.stackTraces = false) {d : Nat} (hd : 1 ≤ d) {l0 : Nat} {m : ab_Mm} {z : (Int32 × ab_Mm)} (h : dd_X11_errorPosition l0 m = some z) : ab_Met l g yX11_errorPosition cX11_errorPosition 1 (some .int) [] d [.ref l0] m (.inl (some (.int z.1))) z.2 := by
  obtain ⟨d2, rfl⟩ : ∃ d2, d = d2 + 1 := ⟨d - 1, by omega⟩
  exact ab_of hl0 (by decide +kernel) (Nat.le_of_ble_eq_true rfl) (fun q => by cases q) rfl (te_X11_errorPosition hl0 hd _ _ _ h)
theorem te_X11_hostCount {l : Launch} {g : ab_G} (hl0 : l.stackTraces = false) {d2 : Nat} (hd : 1 ≤ d2 + 1)   (l0 : Nat) (m0 : ab_Mm) (z : (Int32 × ab_Mm)) (h : dd_X11_hostCount  l0 m0 = some z) : ab_W l g cX11_hostCount RX11 1 (some .int) [] false (d2 + 1) (.inl (some (.int z.1))) z.2 0 [(0, .ref l0)] [] m0 := by
  unfold dd_X11_hostCount at h
  refine ru_aload_n (i := 0) dX11_hostCount_0 rfl rfl <| ?_
  refine ru_getR h dX11_hostCount_1 lk_X11_19 ?_
  intro v1 h
  refine ru_getR h dX11_hostCount_4 lk_X11_103 ?_
  intro v2 h
  refine ru_getI h dX11_hostCount_7 lk_X11_107 ?_
  intro v3 h
  cases h
  exact ru_ret (v := some (.int _)) ⟨_, rfl, rfl, dX11_hostCount_10⟩
theorem tm_X11_hostCount {l : Launch} {g : ab_G} (hl0 : l.stackTraces = false) {d : Nat} (hd : 1 ≤ d) {l0 : Nat} {m : ab_Mm} {z : (Int32 × ab_Mm)} (h : dd_X11_hostCount l0 m = some z) : ab_Met l g yX11_hostCount cX11_hostCount 1 (some .int) [] d [.ref l0] m (.inl (some (.int z.1))) z.2 := by
  obtain ⟨d2, rfl⟩ : ∃ d2, d = d2 + 1 := ⟨d - 1, by omega⟩
  exact ab_of hl0 (by decide +kernel) (Nat.le_of_ble_eq_true rfl) (fun q => by cases q) rfl (te_X11_hostCount hl0 hd _ _ _ h)
theorem te_X11_clock {l : Launch} {g : ab_G} (hl0 : l.stackTraces = false) {d2 : Nat} (hd : 1 ≤ d2 + 1)   (l0 : Nat) (m0 : ab_Mm) (z : (Int32 × ab_Mm)) (h : dd_X11_clock  l0 m0 = some z) : ab_W l g cX11_clock RX11 1 (some .int) [] false (d2 + 1) (.inl (some (.int z.1))) z.2 0 [(0, .ref l0)] [] m0 := by
  unfold dd_X11_clock at h
  refine ru_aload_n (i := 0) dX11_clock_0 rfl rfl <| ?_
  refine ru_getR h dX11_clock_1 lk_X11_26 ?_
  intro v1 h
  refine ru_getI h dX11_clock_4 lk_X11_112 ?_
  intro v2 h
  cases h
  exact ru_ret (v := some (.int _)) ⟨_, rfl, rfl, dX11_clock_7⟩
theorem tm_X11_clock {l : Launch} {g : ab_G} (hl0 : l.stackTraces = false) {d : Nat} (hd : 1 ≤ d) {l0 : Nat} {m : ab_Mm} {z : (Int32 × ab_Mm)} (h : dd_X11_clock l0 m = some z) : ab_Met l g yX11_clock cX11_clock 1 (some .int) [] d [.ref l0] m (.inl (some (.int z.1))) z.2 := by
  obtain ⟨d2, rfl⟩ : ∃ d2, d = d2 + 1 := ⟨d - 1, by omega⟩
  exact ab_of hl0 (by decide +kernel) (Nat.le_of_ble_eq_true rfl) (fun q => by cases q) rfl (te_X11_clock hl0 hd _ _ _ h)
theorem te_X11_needRow {l : Launch} {g : ab_G} (hl0 : l.stackTraces = false) {d2 : Nat} (hd : 2 ≤ d2 + 1)   (l0 : Nat) (l1 : Nat) (l2 : Int32) (m0 : ab_Mm) (z : ((Unit ⊕ Nat) × ab_Mm)) (h : dd_X11_needRow  l0 l1 l2 m0 = some z) : ab_W l g cX11_needRow RX11 3 none [] false (d2 + 1) (ab_oxV z.1) z.2 0 [(0, .ref l0), (1, .ref l1), (2, .int l2)] [] m0 := by
  unfold dd_X11_needRow at h
  refine ru_aload_n (i := 1) dX11_needRow_0 rfl rfl <| ru_iload_n (i := 2) dX11_needRow_1 rfl rfl <| ?_
  obtain ⟨_, hrc, h⟩ := Option.bind_eq_some_iff.mp h
  obtain ⟨q1, hq1, h⟩ := Option.bind_eq_some_iff.mp h
  refine ru_callV (tm_X10_has hl0 (by omega) hq1) dX11_needRow_2 rfl pm_X11_161 mf_X10_has (ab_rcv_of hrc rfl) rfl rfl (Nat.le_of_ble_eq_true rfl) ?_
  refine ru_if_ne (tgt := 19) dX11_needRow_5 (by decide) (fun hc => ?_) (fun hc => ?_)
  · rw [if_neg hc] at h
    cases h
    exact ru_ret (v := none) ⟨rfl, dX11_needRow_19⟩
  · rw [if_pos hc] at h
    cases h
    exact ru_throwSW xk_X11_328_332 (text := "no such number") (by decide +kernel) (Nat.le_of_ble_eq_true rfl) dX11_needRow_8 dX11_needRow_11 dX11_needRow_12 dX11_needRow_15 dX11_needRow_18
theorem tm_X11_needRow {l : Launch} {g : ab_G} (hl0 : l.stackTraces = false) {d : Nat} (hd : 2 ≤ d) {l0 : Nat} {l1 : Nat} {l2 : Int32} {m : ab_Mm} {z : ((Unit ⊕ Nat) × ab_Mm)} (h : dd_X11_needRow l0 l1 l2 m = some z) : ab_Met l g yX11_needRow cX11_needRow 3 none [] d [.ref l0, .ref l1, .int l2] m (ab_oxV z.1) z.2 := by
  obtain ⟨d2, rfl⟩ : ∃ d2, d = d2 + 1 := ⟨d - 1, by omega⟩
  exact ab_of hl0 (by decide +kernel) (Nat.le_of_ble_eq_true rfl) (fun q => by cases q) rfl (te_X11_needRow hl0 hd _ _ _ _ _ h)
theorem tbb_X11_free_30 {l : Launch} {g : ab_G} (hl0 : l.stackTraces = false) {d2 : Nat} (hd : 3 ≤ d2 + 1)   (s0 : Nat) (s1 : Nat) (s2 : Int32) (s3 : Int32) (m0 : ab_Mm) (z : ((Int32 ⊕ Nat) × ab_Mm)) (h : bb_X11_free_30  s0 s1 s2 s3 m0 = some z) : ab_W l g cX11_free RX11 3 (some .int) [] false (d2 + 1) (ab_oxI z.1) z.2 30 [] [.int s3, .int s2, .ref s1, .ref s0] m0 := by
  unfold bb_X11_free_30 at h
  obtain ⟨_, hrc, h⟩ := Option.bind_eq_some_iff.mp h
  obtain ⟨q1, hq1, h⟩ := Option.bind_eq_some_iff.mp h
  refine ru_callV (tm_X8_left hl0 (by omega) hq1) dX11_free_30 rfl pm_X11_119 mf_X8_left (ab_rcv_of hrc rfl) rfl rfl (Nat.le_of_ble_eq_true rfl) ?_
  cases h
  exact ru_ret (v := some (.int _)) ⟨_, rfl, rfl, dX11_free_33⟩
theorem te_X11_free {l : Launch} {g : ab_G} (hl0 : l.stackTraces = false) {d2 : Nat} (hd : 3 ≤ d2 + 1)   (l0 : Nat) (l1 : Int32) (l2 : Int32) (m0 : ab_Mm) (z : ((Int32 ⊕ Nat) × ab_Mm)) (h : dd_X11_free  l0 l1 l2 m0 = some z) : ab_W l g cX11_free RX11 3 (some .int) [] false (d2 + 1) (ab_oxI z.1) z.2 0 [(0, .ref l0), (1, .int l1), (2, .int l2)] [] m0 := by
  unfold dd_X11_free at h
  refine ru_aload_n (i := 0) dX11_free_0 rfl rfl <| ru_aload_n (i := 0) dX11_free_1 rfl rfl <| ?_
  refine ru_getR h dX11_free_2 lk_X11_19 ?_
  intro v1 h
  refine ru_getR h dX11_free_5 lk_X11_103 ?_
  intro v2 h
  refine ru_iload_n (i := 1) dX11_free_8 rfl rfl <| ?_
  obtain ⟨_, hrc, h⟩ := Option.bind_eq_some_iff.mp h
  obtain ⟨q3, hq3, h⟩ := Option.bind_eq_some_iff.mp h
  obtain ⟨v3, m3⟩ := q3
  cases v3 with
  | inl v3 =>
    dsimp only at h
    refine ru_callV (tm_X11_needRow hl0 (by omega) hq3) dX11_free_9 rfl pm_X11_115 mf_X11_needRow (ab_rcv_of hrc rfl) rfl rfl (Nat.le_of_ble_eq_true rfl) ?_
    refine ru_aload_n (i := 0) dX11_free_12 rfl rfl <| ?_
    refine ru_getR h dX11_free_13 lk_X11_26 ?_
    intro v4 h
    refine ru_aload_n (i := 0) dX11_free_16 rfl rfl <| ?_
    refine ru_getR h dX11_free_17 lk_X11_19 ?_
    intro v5 h
    refine ru_iload_n (i := 1) dX11_free_20 rfl rfl <| ru_iload_n (i := 2) dX11_free_21 rfl rfl <| ?_
    refine ru_if_eq (tgt := 29) dX11_free_22 (by decide) (fun hc => ?_) (fun hc => ?_)
    · rw [if_pos hc] at h
      refine ru_iconst dX11_free_29 kc_i_0 <| ?_
      exact ru_pick [] rfl (tbb_X11_free_30 hl0 hd   _ _ _ _ _ _ h)
    · rw [if_neg hc] at h
      refine ru_iconst dX11_free_25 kc_i_1 <| ru_goto (tgt := 30) dX11_free_26 (by decide) <| ?_
      exact ru_pick [] rfl (tbb_X11_free_30 hl0 hd   _ _ _ _ _ _ h)
  | inr v3 =>
    dsimp only at h
    cases h
    exact ru_callVX (tm_X11_needRow hl0 (by omega) hq3) dX11_free_9 rfl pm_X11_115 mf_X11_needRow (ab_rcv_of hrc rfl) rfl rfl (Nat.le_of_ble_eq_true rfl) rfl
theorem tm_X11_free {l : Launch} {g : ab_G} (hl0 : l.stackTraces = false) {d : Nat} (hd : 3 ≤ d) {l0 : Nat} {l1 : Int32} {l2 : Int32} {m : ab_Mm} {z : ((Int32 ⊕ Nat) × ab_Mm)} (h : dd_X11_free l0 l1 l2 m = some z) : ab_Met l g yX11_free cX11_free 3 (some .int) [] d [.ref l0, .int l1, .int l2] m (ab_oxI z.1) z.2 := by
  obtain ⟨d2, rfl⟩ : ∃ d2, d = d2 + 1 := ⟨d - 1, by omega⟩
  exact ab_of hl0 (by decide +kernel) (Nat.le_of_ble_eq_true rfl) (fun q => by cases q) rfl (te_X11_free hl0 hd _ _ _ _ _ h)
theorem te_X11_instancesOn {l : Launch} {g : ab_G} (hl0 : l.stackTraces = false) {d2 : Nat} (hd : 3 ≤ d2 + 1)   (l0 : Nat) (l1 : Int32) (m0 : ab_Mm) (z : ((Int32 ⊕ Nat) × ab_Mm)) (h : dd_X11_instancesOn  l0 l1 m0 = some z) : ab_W l g cX11_instancesOn RX11 2 (some .int) [] false (d2 + 1) (ab_oxI z.1) z.2 0 [(0, .ref l0), (1, .int l1)] [] m0 := by
  unfold dd_X11_instancesOn at h
  refine ru_aload_n (i := 0) dX11_instancesOn_0 rfl rfl <| ru_aload_n (i := 0) dX11_instancesOn_1 rfl rfl <| ?_
  refine ru_getR h dX11_instancesOn_2 lk_X11_19 ?_
  intro v1 h
  refine ru_getR h dX11_instancesOn_5 lk_X11_103 ?_
  intro v2 h
  refine ru_iload_n (i := 1) dX11_instancesOn_8 rfl rfl <| ?_
  obtain ⟨_, hrc, h⟩ := Option.bind_eq_some_iff.mp h
  obtain ⟨q3, hq3, h⟩ := Option.bind_eq_some_iff.mp h
  obtain ⟨v3, m3⟩ := q3
  cases v3 with
  | inl v3 =>
    dsimp only at h
    refine ru_callV (tm_X11_needRow hl0 (by omega) hq3) dX11_instancesOn_9 rfl pm_X11_115 mf_X11_needRow (ab_rcv_of hrc rfl) rfl rfl (Nat.le_of_ble_eq_true rfl) ?_
    refine ru_aload_n (i := 0) dX11_instancesOn_12 rfl rfl <| ?_
    refine ru_getR h dX11_instancesOn_13 lk_X11_26 ?_
    intro v4 h
    refine ru_iload_n (i := 1) dX11_instancesOn_16 rfl rfl <| ?_
    obtain ⟨_, hrc, h⟩ := Option.bind_eq_some_iff.mp h
    obtain ⟨q5, hq5, h⟩ := Option.bind_eq_some_iff.mp h
    refine ru_callV (tm_X8_setOn hl0 (by omega) hq5) dX11_instancesOn_17 rfl pm_X11_123 mf_X8_setOn (ab_rcv_of hrc rfl) rfl rfl (Nat.le_of_ble_eq_true rfl) ?_
    cases h
    exact ru_ret (v := some (.int _)) ⟨_, rfl, rfl, dX11_instancesOn_20⟩
  | inr v3 =>
    dsimp only at h
    cases h
    exact ru_callVX (tm_X11_needRow hl0 (by omega) hq3) dX11_instancesOn_9 rfl pm_X11_115 mf_X11_needRow (ab_rcv_of hrc rfl) rfl rfl (Nat.le_of_ble_eq_true rfl) rfl
theorem tm_X11_instancesOn {l : Launch} {g : ab_G} (hl0 : l.stackTraces = false) {d : Nat} (hd : 3 ≤ d) {l0 : Nat} {l1 : Int32} {m : ab_Mm} {z : ((Int32 ⊕ Nat) × ab_Mm)} (h : dd_X11_instancesOn l0 l1 m = some z) : ab_Met l g yX11_instancesOn cX11_instancesOn 2 (some .int) [] d [.ref l0, .int l1] m (ab_oxI z.1) z.2 := by
  obtain ⟨d2, rfl⟩ : ∃ d2, d = d2 + 1 := ⟨d - 1, by omega⟩
  exact ab_of hl0 (by decide +kernel) (Nat.le_of_ble_eq_true rfl) (fun q => by cases q) rfl (te_X11_instancesOn hl0 hd _ _ _ _ h)
theorem tbb_X11_utilisation_35 {l : Launch} {g : ab_G} (hl0 : l.stackTraces = false) {d2 : Nat} (hd : 3 ≤ d2 + 1)   (s0 : UInt64) (m0 : ab_Mm) (z : (UInt64 × ab_Mm)) (h : bb_X11_utilisation_35  s0 m0 = some z) : ab_W l g cX11_utilisation RX11 2 (some .double) [] false (d2 + 1) (.inl (some (.double z.1))) z.2 35 [] [.double s0] m0 := by
  unfold bb_X11_utilisation_35 at h
  cases h
  exact ru_ret (v := some (.double _)) ⟨rfl, dX11_utilisation_35⟩
theorem te_X11_utilisation {l : Launch} {g : ab_G} (hl0 : l.stackTraces = false) {d2 : Nat} (hd : 3 ≤ d2 + 1)   (l0 : Nat) (m0 : ab_Mm) (z : (UInt64 × ab_Mm)) (h : dd_X11_utilisation  l0 m0 = some z) : ab_W l g cX11_utilisation RX11 2 (some .double) [] false (d2 + 1) (.inl (some (.double z.1))) z.2 0 [(0, .ref l0)] [] m0 := by
  unfold dd_X11_utilisation at h
  refine ru_aload_n (i := 0) dX11_utilisation_0 rfl rfl <| ?_
  refine ru_getR h dX11_utilisation_1 lk_X11_19 ?_
  intro v1 h
  refine ru_getR h dX11_utilisation_4 lk_X11_103 ?_
  intro v2 h
  refine ru_iconst dX11_utilisation_7 kc_i_0 <| ?_
  obtain ⟨_, hrc, h⟩ := Option.bind_eq_some_iff.mp h
  obtain ⟨q3, hq3, h⟩ := Option.bind_eq_some_iff.mp h
  refine ru_callV (tm_X10_total hl0 (by omega) hq3) dX11_utilisation_8 rfl pm_X11_126 mf_X10_total (ab_rcv_of hrc rfl) rfl rfl (Nat.le_of_ble_eq_true rfl) ?_
  refine ru_istore_n (i := 1) dX11_utilisation_11 rfl (by decide) <| ru_iload_n (i := 1) dX11_utilisation_12 rfl rfl <| ?_
  refine ru_if_le (tgt := 34) dX11_utilisation_13 (by decide) (fun hc => ?_) (fun hc => ?_)
  · rw [if_pos hc] at h
    refine ru_dconst0 dX11_utilisation_34 <| ?_
    exact ru_pick [] rfl (tbb_X11_utilisation_35 hl0 hd   _ _ _ h)
  · rw [if_neg hc] at h
    refine ru_aload_n (i := 0) dX11_utilisation_16 rfl rfl <| ?_
    refine ru_getR h dX11_utilisation_17 lk_X11_26 ?_
    intro v4 h
    refine ru_getR h dX11_utilisation_20 lk_X11_129 ?_
    intro v5 h
    refine ru_iconst dX11_utilisation_23 kc_i_0 <| ?_
    obtain ⟨_, hrc, h⟩ := Option.bind_eq_some_iff.mp h
    obtain ⟨q6, hq6, h⟩ := Option.bind_eq_some_iff.mp h
    refine ru_callV (tm_X10_total hl0 (by omega) hq6) dX11_utilisation_24 rfl pm_X11_126 mf_X10_total (ab_rcv_of hrc rfl) rfl rfl (Nat.le_of_ble_eq_true rfl) ?_
    refine ru_i2d dX11_utilisation_27 <| ru_iload_n (i := 1) dX11_utilisation_28 rfl rfl <| ru_i2d dX11_utilisation_29 <| ?_
    rcases ab_iff h with ⟨hc, h⟩ | ⟨hc, h⟩
    · cases h
    refine ru_ddiv dX11_utilisation_30 (Classical.not_not.mp hc) ?_
    refine ru_goto (tgt := 35) dX11_utilisation_31 (by decide) <| ?_
    exact ru_pick [] rfl (tbb_X11_utilisation_35 hl0 hd   _ _ _ h)
theorem tm_X11_utilisation {l : Launch} {g : ab_G} (hl0 : l.stackTraces = false) {d : Nat} (hd : 3 ≤ d) {l0 : Nat} {m : ab_Mm} {z : (UInt64 × ab_Mm)} (h : dd_X11_utilisation l0 m = some z) : ab_Met l g yX11_utilisation cX11_utilisation 2 (some .double) [] d [.ref l0] m (.inl (some (.double z.1))) z.2 := by
  obtain ⟨d2, rfl⟩ : ∃ d2, d = d2 + 1 := ⟨d - 1, by omega⟩
  exact ab_of hl0 (by decide +kernel) (Nat.le_of_ble_eq_true rfl) (fun q => by cases q) rfl (te_X11_utilisation hl0 hd _ _ _ h)
theorem te_X11_spotPrice {l : Launch} {g : ab_G} (hl0 : l.stackTraces = false) {d2 : Nat} (hd : 3 ≤ d2 + 1)   (l0 : Nat) (l1 : Int32) (m0 : ab_Mm) (z : ((Int32 ⊕ Nat) × ab_Mm)) (h : dd_X11_spotPrice  l0 l1 m0 = some z) : ab_W l g cX11_spotPrice RX11 2 (some .int) [] false (d2 + 1) (ab_oxI z.1) z.2 0 [(0, .ref l0), (1, .int l1)] [] m0 := by
  unfold dd_X11_spotPrice at h
  refine ru_aload_n (i := 0) dX11_spotPrice_0 rfl rfl <| ru_aload_n (i := 0) dX11_spotPrice_1 rfl rfl <| ?_
  refine ru_getR h dX11_spotPrice_2 lk_X11_19 ?_
  intro v1 h
  refine ru_getR h dX11_spotPrice_5 lk_X11_132 ?_
  intro v2 h
  refine ru_iload_n (i := 1) dX11_spotPrice_8 rfl rfl <| ?_
  obtain ⟨_, hrc, h⟩ := Option.bind_eq_some_iff.mp h
  obtain ⟨q3, hq3, h⟩ := Option.bind_eq_some_iff.mp h
  obtain ⟨v3, m3⟩ := q3
  cases v3 with
  | inl v3 =>
    dsimp only at h
    refine ru_callV (tm_X11_needRow hl0 (by omega) hq3) dX11_spotPrice_9 rfl pm_X11_115 mf_X11_needRow (ab_rcv_of hrc rfl) rfl rfl (Nat.le_of_ble_eq_true rfl) ?_
    refine ru_aload_n (i := 0) dX11_spotPrice_12 rfl rfl <| ?_
    refine ru_getR h dX11_spotPrice_13 lk_X11_26 ?_
    intro v4 h
    refine ru_getR h dX11_spotPrice_16 lk_X11_135 ?_
    intro v5 h
    refine ru_iload_n (i := 1) dX11_spotPrice_19 rfl rfl <| ru_iconst dX11_spotPrice_20 kc_i_0 <| ?_
    obtain ⟨_, hrc, h⟩ := Option.bind_eq_some_iff.mp h
    obtain ⟨q6, hq6, h⟩ := Option.bind_eq_some_iff.mp h
    refine ru_callV (tm_X10_get hl0 (by omega) hq6) dX11_spotPrice_21 rfl pm_X11_138 mf_X10_get (ab_rcv_of hrc rfl) rfl rfl (Nat.le_of_ble_eq_true rfl) ?_
    cases h
    exact ru_ret (v := some (.int _)) ⟨_, rfl, rfl, dX11_spotPrice_24⟩
  | inr v3 =>
    dsimp only at h
    cases h
    exact ru_callVX (tm_X11_needRow hl0 (by omega) hq3) dX11_spotPrice_9 rfl pm_X11_115 mf_X11_needRow (ab_rcv_of hrc rfl) rfl rfl (Nat.le_of_ble_eq_true rfl) rfl
theorem tm_X11_spotPrice {l : Launch} {g : ab_G} (hl0 : l.stackTraces = false) {d : Nat} (hd : 3 ≤ d) {l0 : Nat} {l1 : Int32} {m : ab_Mm} {z : ((Int32 ⊕ Nat) × ab_Mm)} (h : dd_X11_spotPrice l0 l1 m = some z) : ab_Met l g yX11_spotPrice cX11_spotPrice 2 (some .int) [] d [.ref l0, .int l1] m (ab_oxI z.1) z.2 := by
  obtain ⟨d2, rfl⟩ : ∃ d2, d = d2 + 1 := ⟨d - 1, by omega⟩
  exact ab_of hl0 (by decide +kernel) (Nat.le_of_ble_eq_true rfl) (fun q => by cases q) rfl (te_X11_spotPrice hl0 hd _ _ _ _ h)
theorem te_X11_bestHost {l : Launch} {g : ab_G} (hl0 : l.stackTraces = false) {d2 : Nat} (hd : 5 ≤ d2 + 1)   (l0 : Nat) (l1 : Int32) (m0 : ab_Mm) (z : ((Int32 ⊕ Nat) × ab_Mm)) (h : dd_X11_bestHost  l0 l1 m0 = some z) : ab_W l g cX11_bestHost RX11 2 (some .int) [] false (d2 + 1) (ab_oxI z.1) z.2 0 [(0, .ref l0), (1, .int l1)] [] m0 := by
  unfold dd_X11_bestHost at h
  refine ru_aload_n (i := 0) dX11_bestHost_0 rfl rfl <| ru_aload_n (i := 0) dX11_bestHost_1 rfl rfl <| ?_
  refine ru_getR h dX11_bestHost_2 lk_X11_19 ?_
  intro v1 h
  refine ru_getR h dX11_bestHost_5 lk_X11_132 ?_
  intro v2 h
  refine ru_iload_n (i := 1) dX11_bestHost_8 rfl rfl <| ?_
  obtain ⟨_, hrc, h⟩ := Option.bind_eq_some_iff.mp h
  obtain ⟨q3, hq3, h⟩ := Option.bind_eq_some_iff.mp h
  obtain ⟨v3, m3⟩ := q3
  cases v3 with
  | inl v3 =>
    dsimp only at h
    refine ru_callV (tm_X11_needRow hl0 (by omega) hq3) dX11_bestHost_9 rfl pm_X11_115 mf_X11_needRow (ab_rcv_of hrc rfl) rfl rfl (Nat.le_of_ble_eq_true rfl) ?_
    refine ru_aload_n (i := 0) dX11_bestHost_12 rfl rfl <| ?_
    refine ru_getR h dX11_bestHost_13 lk_X11_26 ?_
    intro v4 h
    refine ru_aload_n (i := 0) dX11_bestHost_16 rfl rfl <| ?_
    refine ru_getR h dX11_bestHost_17 lk_X11_19 ?_
    intro v5 h
    refine ru_iload_n (i := 1) dX11_bestHost_20 rfl rfl <| ?_
    obtain ⟨_, hrc, h⟩ := Option.bind_eq_some_iff.mp h
    obtain ⟨q6, hq6, h⟩ := Option.bind_eq_some_iff.mp h
    refine ru_callV (tm_X8_tightestHost hl0 (by omega) hq6) dX11_bestHost_21 rfl pm_X11_142 mf_X8_tightestHost (ab_rcv_of hrc rfl) rfl rfl (Nat.le_of_ble_eq_true rfl) ?_
    cases h
    exact ru_ret (v := some (.int _)) ⟨_, rfl, rfl, dX11_bestHost_24⟩
  | inr v3 =>
    dsimp only at h
    cases h
    exact ru_callVX (tm_X11_needRow hl0 (by omega) hq3) dX11_bestHost_9 rfl pm_X11_115 mf_X11_needRow (ab_rcv_of hrc rfl) rfl rfl (Nat.le_of_ble_eq_true rfl) rfl
theorem tm_X11_bestHost {l : Launch} {g : ab_G} (hl0 : l.stackTraces = false) {d : Nat} (hd : 5 ≤ d) {l0 : Nat} {l1 : Int32} {m : ab_Mm} {z : ((Int32 ⊕ Nat) × ab_Mm)} (h : dd_X11_bestHost l0 l1 m = some z) : ab_Met l g yX11_bestHost cX11_bestHost 2 (some .int) [] d [.ref l0, .int l1] m (ab_oxI z.1) z.2 := by
  obtain ⟨d2, rfl⟩ : ∃ d2, d = d2 + 1 := ⟨d - 1, by omega⟩
  exact ab_of hl0 (by decide +kernel) (Nat.le_of_ble_eq_true rfl) (fun q => by cases q) rfl (te_X11_bestHost hl0 hd _ _ _ _ h)
theorem tbb_X11_room_16 {l : Launch} {g : ab_G} (hl0 : l.stackTraces = false) {d2 : Nat} (hd : 4 ≤ d2 + 1)   : ∀ (n : Nat) (l0 : Nat) (l1 : Int32) (l2 : Int32) (l3 : Int32) (m0 : ab_Mm) (z : ((Int32 ⊕ Nat) × ab_Mm)), bb_X11_room_16  n l0 l1 l2 l3 m0 = some z → ab_W l g cX11_room RX11 4 (some .int) [] false (d2 + 1) (ab_oxI z.1) z.2 16 [(0, .ref l0), (1, .int l1), (2, .int l2), (3, .int l3)] [] m0 := by
  intro n
  induction n with
  | zero => intro l0 l1 l2 l3 m0 z h; cases h
  | succ n ih =>
    intro l0 l1 l2 l3 m0 z h
    rw [bb_X11_room_16] at h
    refine ru_iload_n (i := 3) dX11_room_16 rfl rfl <| ru_aload_n (i := 0) dX11_room_17 rfl rfl <| ?_
    refine ru_getR h dX11_room_18 lk_X11_19 ?_
    intro v1 h
    refine ru_getR h dX11_room_21 lk_X11_103 ?_
    intro v2 h
    refine ru_getI h dX11_room_24 lk_X11_107 ?_
    intro v3 h
    refine ru_icmp_ge (tgt := 52) dX11_room_27 (by decide) (fun hc => ?_) (fun hc => ?_)
    · rw [if_pos hc] at h
      refine ru_iload_n (i := 2) dX11_room_52 rfl rfl <| ?_
      cases h
      exact ru_ret (v := some (.int _)) ⟨_, rfl, rfl, dX11_room_53⟩
    · rw [if_neg hc] at h
      refine ru_iload_n (i := 2) dX11_room_30 rfl rfl <| ru_aload_n (i := 0) dX11_room_31 rfl rfl <| ?_
      refine ru_getR h dX11_room_32 lk_X11_26 ?_
      intro v4 h
      refine ru_aload_n (i := 0) dX11_room_35 rfl rfl <| ?_
      refine ru_getR h dX11_room_36 lk_X11_19 ?_
      intro v5 h
      refine ru_iload_n (i := 3) dX11_room_39 rfl rfl <| ru_iload_n (i := 1) dX11_room_40 rfl rfl <| ?_
      obtain ⟨_, hrc, h⟩ := Option.bind_eq_some_iff.mp h
      obtain ⟨q6, hq6, h⟩ := Option.bind_eq_some_iff.mp h
      refine ru_callV (tm_X8_roomOn hl0 (by omega) hq6) dX11_room_41 rfl pm_X11_146 mf_X8_roomOn (ab_rcv_of hrc rfl) rfl rfl (Nat.le_of_ble_eq_true rfl) ?_
      refine ru_iadd dX11_room_44 <| ru_istore_n (i := 2) dX11_room_45 rfl (by decide) <| ru_iinc dX11_room_46 (by decide) rfl (ab_inc kc_i_1) <| ru_goto (tgt := 16) dX11_room_49 (by decide) <| ?_
      exact ru_pick [0, 1, 2, 3] rfl (ih _ _ _ _ _ _ h)
theorem te_X11_room {l : Launch} {g : ab_G} (hl0 : l.stackTraces = false) {d2 : Nat} (hd : 4 ≤ d2 + 1)   (l0 : Nat) (l1 : Int32) (m0 : ab_Mm) (z : ((Int32 ⊕ Nat) × ab_Mm)) (h : dd_X11_room  l0 l1 m0 = some z) : ab_W l g cX11_room RX11 4 (some .int) [] false (d2 + 1) (ab_oxI z.1) z.2 0 [(0, .ref l0), (1, .int l1)] [] m0 := by
  unfold dd_X11_room at h
  refine ru_aload_n (i := 0) dX11_room_0 rfl rfl <| ru_aload_n (i := 0) dX11_room_1 rfl rfl <| ?_
  refine ru_getR h dX11_room_2 lk_X11_19 ?_
  intro v1 h
  refine ru_getR h dX11_room_5 lk_X11_132 ?_
  intro v2 h
  refine ru_iload_n (i := 1) dX11_room_8 rfl rfl <| ?_
  obtain ⟨_, hrc, h⟩ := Option.bind_eq_some_iff.mp h
  obtain ⟨q3, hq3, h⟩ := Option.bind_eq_some_iff.mp h
  obtain ⟨v3, m3⟩ := q3
  cases v3 with
  | inl v3 =>
    dsimp only at h
    refine ru_callV (tm_X11_needRow hl0 (by omega) hq3) dX11_room_9 rfl pm_X11_115 mf_X11_needRow (ab_rcv_of hrc rfl) rfl rfl (Nat.le_of_ble_eq_true rfl) ?_
    refine ru_iconst dX11_room_12 kc_i_0 <| ru_istore_n (i := 2) dX11_room_13 rfl (by decide) <| ru_iconst dX11_room_14 kc_i_0 <| ru_istore_n (i := 3) dX11_room_15 rfl (by decide) <| ?_
    exact ru_pick [0, 1, 2, 3] rfl (tbb_X11_room_16 hl0 hd   _ _ _ _ _ _ _ h)
  | inr v3 =>
    dsimp only at h
    cases h
    exact ru_callVX (tm_X11_needRow hl0 (by omega) hq3) dX11_room_9 rfl pm_X11_115 mf_X11_needRow (ab_rcv_of hrc rfl) rfl rfl (Nat.le_of_ble_eq_true rfl) rfl
theorem tm_X11_room {l : Launch} {g : ab_G} (hl0 : l.stackTraces = false) {d : Nat} (hd : 4 ≤ d) {l0 : Nat} {l1 : Int32} {m : ab_Mm} {z : ((Int32 ⊕ Nat) × ab_Mm)} (h : dd_X11_room l0 l1 m = some z) : ab_Met l g yX11_room cX11_room 4 (some .int) [] d [.ref l0, .int l1] m (ab_oxI z.1) z.2 := by
  obtain ⟨d2, rfl⟩ : ∃ d2, d = d2 + 1 := ⟨d - 1, by omega⟩
  exact ab_of hl0 (by decide +kernel) (Nat.le_of_ble_eq_true rfl) (fun q => by cases q) rfl (te_X11_room hl0 hd _ _ _ _ h)
theorem te_X11_running {l : Launch} {g : ab_G} (hl0 : l.stackTraces = false) {d2 : Nat} (hd : 1 ≤ d2 + 1)   (l0 : Nat) (m0 : ab_Mm) (z : (Int32 × ab_Mm)) (h : dd_X11_running  l0 m0 = some z) : ab_W l g cX11_running RX11 1 (some .int) [] false (d2 + 1) (.inl (some (.int z.1))) z.2 0 [(0, .ref l0)] [] m0 := by
  unfold dd_X11_running at h
  refine ru_aload_n (i := 0) dX11_running_0 rfl rfl <| ?_
  refine ru_getR h dX11_running_1 lk_X11_26 ?_
  intro v1 h
  refine ru_getI h dX11_running_4 lk_X11_149 ?_
  intro v2 h
  cases h
  exact ru_ret (v := some (.int _)) ⟨_, rfl, rfl, dX11_running_7⟩
theorem tm_X11_running {l : Launch} {g : ab_G} (hl0 : l.stackTraces = false) {d : Nat} (hd : 1 ≤ d) {l0 : Nat} {m : ab_Mm} {z : (Int32 × ab_Mm)} (h : dd_X11_running l0 m = some z) : ab_Met l g yX11_running cX11_running 1 (some .int) [] d [.ref l0] m (.inl (some (.int z.1))) z.2 := by
  obtain ⟨d2, rfl⟩ : ∃ d2, d = d2 + 1 := ⟨d - 1, by omega⟩
  exact ab_of hl0 (by decide +kernel) (Nat.le_of_ble_eq_true rfl) (fun q => by cases q) rfl (te_X11_running hl0 hd _ _ _ h)
theorem te_X11_needInstance {l : Launch} {g : ab_G} (hl0 : l.stackTraces = false) {d2 : Nat} (hd : 2 ≤ d2 + 1)   (l0 : Nat) (l1 : Int32) (m0 : ab_Mm) (z : ((Unit ⊕ Nat) × ab_Mm)) (h : dd_X11_needInstance  l0 l1 m0 = some z) : ab_W l g cX11_needInstance RX11 2 none [] false (d2 + 1) (ab_oxV z.1) z.2 0 [(0, .ref l0), (1, .int l1)] [] m0 := by
  unfold dd_X11_needInstance at h
  refine ru_aload_n (i := 0) dX11_needInstance_0 rfl rfl <| ?_
  refine ru_getR h dX11_needInstance_1 lk_X11_26 ?_
  intro v1 h
  refine ru_iload_n (i := 1) dX11_needInstance_4 rfl rfl <| ?_
  obtain ⟨_, hrc, h⟩ := Option.bind_eq_some_iff.mp h
  obtain ⟨q2, hq2, h⟩ := Option.bind_eq_some_iff.mp h
  refine ru_callV (tm_X8_runs hl0 (by omega) hq2) dX11_needInstance_5 rfl pm_X11_333 mf_X8_runs (ab_rcv_of hrc rfl) rfl rfl (Nat.le_of_ble_eq_true rfl) ?_
  refine ru_if_ne (tgt := 22) dX11_needInstance_8 (by decide) (fun hc => ?_) (fun hc => ?_)
  · rw [if_neg hc] at h
    cases h
    exact ru_ret (v := none) ⟨rfl, dX11_needInstance_22⟩
  · rw [if_pos hc] at h
    cases h
    exact ru_throwSW xk_X11_328_332 (text := "no such running instance") (by decide +kernel) (Nat.le_of_ble_eq_true rfl) dX11_needInstance_11 dX11_needInstance_14 dX11_needInstance_15 dX11_needInstance_18 dX11_needInstance_21
theorem tm_X11_needInstance {l : Launch} {g : ab_G} (hl0 : l.stackTraces = false) {d : Nat} (hd : 2 ≤ d) {l0 : Nat} {l1 : Int32} {m : ab_Mm} {z : ((Unit ⊕ Nat) × ab_Mm)} (h : dd_X11_needInstance l0 l1 m = some z) : ab_Met l g yX11_needInstance cX11_needInstance 2 none [] d [.ref l0, .int l1] m (ab_oxV z.1) z.2 := by
  obtain ⟨d2, rfl⟩ : ∃ d2, d = d2 + 1 := ⟨d - 1, by omega⟩
  exact ab_of hl0 (by decide +kernel) (Nat.le_of_ble_eq_true rfl) (fun q => by cases q) rfl (te_X11_needInstance hl0 hd _ _ _ _ h)
theorem te_X11_typeOf {l : Launch} {g : ab_G} (hl0 : l.stackTraces = false) {d2 : Nat} (hd : 3 ≤ d2 + 1)   (l0 : Nat) (l1 : Int32) (m0 : ab_Mm) (z : ((Int32 ⊕ Nat) × ab_Mm)) (h : dd_X11_typeOf  l0 l1 m0 = some z) : ab_W l g cX11_typeOf RX11 2 (some .int) [] false (d2 + 1) (ab_oxI z.1) z.2 0 [(0, .ref l0), (1, .int l1)] [] m0 := by
  unfold dd_X11_typeOf at h
  refine ru_aload_n (i := 0) dX11_typeOf_0 rfl rfl <| ru_iload_n (i := 1) dX11_typeOf_1 rfl rfl <| ?_
  obtain ⟨_, hrc, h⟩ := Option.bind_eq_some_iff.mp h
  obtain ⟨q1, hq1, h⟩ := Option.bind_eq_some_iff.mp h
  obtain ⟨v1, m1⟩ := q1
  cases v1 with
  | inl v1 =>
    dsimp only at h
    refine ru_callV (tm_X11_needInstance hl0 (by omega) hq1) dX11_typeOf_2 rfl pm_X11_152 mf_X11_needInstance (ab_rcv_of hrc rfl) rfl rfl (Nat.le_of_ble_eq_true rfl) ?_
    refine ru_aload_n (i := 0) dX11_typeOf_5 rfl rfl <| ?_
    refine ru_getR h dX11_typeOf_6 lk_X11_26 ?_
    intro v2 h
    refine ru_getR h dX11_typeOf_9 lk_X11_155 ?_
    intro v3 h
    refine ru_iload_n (i := 1) dX11_typeOf_12 rfl rfl <| ru_iconst dX11_typeOf_13 kc_i_1 <| ?_
    obtain ⟨_, hrc, h⟩ := Option.bind_eq_some_iff.mp h
    obtain ⟨q4, hq4, h⟩ := Option.bind_eq_some_iff.mp h
    refine ru_callV (tm_X10_get hl0 (by omega) hq4) dX11_typeOf_14 rfl pm_X11_138 mf_X10_get (ab_rcv_of hrc rfl) rfl rfl (Nat.le_of_ble_eq_true rfl) ?_
    cases h
    exact ru_ret (v := some (.int _)) ⟨_, rfl, rfl, dX11_typeOf_17⟩
  | inr v1 =>
    dsimp only at h
    cases h
    exact ru_callVX (tm_X11_needInstance hl0 (by omega) hq1) dX11_typeOf_2 rfl pm_X11_152 mf_X11_needInstance (ab_rcv_of hrc rfl) rfl rfl (Nat.le_of_ble_eq_true rfl) rfl
theorem tm_X11_typeOf {l : Launch} {g : ab_G} (hl0 : l.stackTraces = false) {d : Nat} (hd : 3 ≤ d) {l0 : Nat} {l1 : Int32} {m : ab_Mm} {z : ((Int32 ⊕ Nat) × ab_Mm)} (h : dd_X11_typeOf l0 l1 m = some z) : ab_Met l g yX11_typeOf cX11_typeOf 2 (some .int) [] d [.ref l0, .int l1] m (ab_oxI z.1) z.2 := by
  obtain ⟨d2, rfl⟩ : ∃ d2, d = d2 + 1 := ⟨d - 1, by omega⟩
  exact ab_of hl0 (by decide +kernel) (Nat.le_of_ble_eq_true rfl) (fun q => by cases q) rfl (te_X11_typeOf hl0 hd _ _ _ _ h)
theorem te_X11_tenantOf {l : Launch} {g : ab_G} (hl0 : l.stackTraces = false) {d2 : Nat} (hd : 3 ≤ d2 + 1)   (l0 : Nat) (l1 : Int32) (m0 : ab_Mm) (z : ((Int32 ⊕ Nat) × ab_Mm)) (h : dd_X11_tenantOf  l0 l1 m0 = some z) : ab_W l g cX11_tenantOf RX11 2 (some .int) [] false (d2 + 1) (ab_oxI z.1) z.2 0 [(0, .ref l0), (1, .int l1)] [] m0 := by
  unfold dd_X11_tenantOf at h
  refine ru_aload_n (i := 0) dX11_tenantOf_0 rfl rfl <| ru_iload_n (i := 1) dX11_tenantOf_1 rfl rfl <| ?_
  obtain ⟨_, hrc, h⟩ := Option.bind_eq_some_iff.mp h
  obtain ⟨q1, hq1, h⟩ := Option.bind_eq_some_iff.mp h
  obtain ⟨v1, m1⟩ := q1
  cases v1 with
  | inl v1 =>
    dsimp only at h
    refine ru_callV (tm_X11_needInstance hl0 (by omega) hq1) dX11_tenantOf_2 rfl pm_X11_152 mf_X11_needInstance (ab_rcv_of hrc rfl) rfl rfl (Nat.le_of_ble_eq_true rfl) ?_
    refine ru_aload_n (i := 0) dX11_tenantOf_5 rfl rfl <| ?_
    refine ru_getR h dX11_tenantOf_6 lk_X11_26 ?_
    intro v2 h
    refine ru_getR h dX11_tenantOf_9 lk_X11_155 ?_
    intro v3 h
    refine ru_iload_n (i := 1) dX11_tenantOf_12 rfl rfl <| ru_iconst dX11_tenantOf_13 kc_i_0 <| ?_
    obtain ⟨_, hrc, h⟩ := Option.bind_eq_some_iff.mp h
    obtain ⟨q4, hq4, h⟩ := Option.bind_eq_some_iff.mp h
    refine ru_callV (tm_X10_get hl0 (by omega) hq4) dX11_tenantOf_14 rfl pm_X11_138 mf_X10_get (ab_rcv_of hrc rfl) rfl rfl (Nat.le_of_ble_eq_true rfl) ?_
    cases h
    exact ru_ret (v := some (.int _)) ⟨_, rfl, rfl, dX11_tenantOf_17⟩
  | inr v1 =>
    dsimp only at h
    cases h
    exact ru_callVX (tm_X11_needInstance hl0 (by omega) hq1) dX11_tenantOf_2 rfl pm_X11_152 mf_X11_needInstance (ab_rcv_of hrc rfl) rfl rfl (Nat.le_of_ble_eq_true rfl) rfl
theorem tm_X11_tenantOf {l : Launch} {g : ab_G} (hl0 : l.stackTraces = false) {d : Nat} (hd : 3 ≤ d) {l0 : Nat} {l1 : Int32} {m : ab_Mm} {z : ((Int32 ⊕ Nat) × ab_Mm)} (h : dd_X11_tenantOf l0 l1 m = some z) : ab_Met l g yX11_tenantOf cX11_tenantOf 2 (some .int) [] d [.ref l0, .int l1] m (ab_oxI z.1) z.2 := by
  obtain ⟨d2, rfl⟩ : ∃ d2, d = d2 + 1 := ⟨d - 1, by omega⟩
  exact ab_of hl0 (by decide +kernel) (Nat.le_of_ble_eq_true rfl) (fun q => by cases q) rfl (te_X11_tenantOf hl0 hd _ _ _ _ h)
theorem te_X11_hostOf {l : Launch} {g : ab_G} (hl0 : l.stackTraces = false) {d2 : Nat} (hd : 3 ≤ d2 + 1)   (l0 : Nat) (l1 : Int32) (m0 : ab_Mm) (z : ((Int32 ⊕ Nat) × ab_Mm)) (h : dd_X11_hostOf  l0 l1 m0 = some z) : ab_W l g cX11_hostOf RX11 2 (some .int) [] false (d2 + 1) (ab_oxI z.1) z.2 0 [(0, .ref l0), (1, .int l1)] [] m0 := by
  unfold dd_X11_hostOf at h
  refine ru_aload_n (i := 0) dX11_hostOf_0 rfl rfl <| ru_iload_n (i := 1) dX11_hostOf_1 rfl rfl <| ?_
  obtain ⟨_, hrc, h⟩ := Option.bind_eq_some_iff.mp h
  obtain ⟨q1, hq1, h⟩ := Option.bind_eq_some_iff.mp h
  obtain ⟨v1, m1⟩ := q1
  cases v1 with
  | inl v1 =>
    dsimp only at h
    refine ru_callV (tm_X11_needInstance hl0 (by omega) hq1) dX11_hostOf_2 rfl pm_X11_152 mf_X11_needInstance (ab_rcv_of hrc rfl) rfl rfl (Nat.le_of_ble_eq_true rfl) ?_
    refine ru_aload_n (i := 0) dX11_hostOf_5 rfl rfl <| ?_
    refine ru_getR h dX11_hostOf_6 lk_X11_26 ?_
    intro v2 h
    refine ru_getR h dX11_hostOf_9 lk_X11_155 ?_
    intro v3 h
    refine ru_iload_n (i := 1) dX11_hostOf_12 rfl rfl <| ru_iconst dX11_hostOf_13 kc_i_3 <| ?_
    obtain ⟨_, hrc, h⟩ := Option.bind_eq_some_iff.mp h
    obtain ⟨q4, hq4, h⟩ := Option.bind_eq_some_iff.mp h
    refine ru_callV (tm_X10_get hl0 (by omega) hq4) dX11_hostOf_14 rfl pm_X11_138 mf_X10_get (ab_rcv_of hrc rfl) rfl rfl (Nat.le_of_ble_eq_true rfl) ?_
    cases h
    exact ru_ret (v := some (.int _)) ⟨_, rfl, rfl, dX11_hostOf_17⟩
  | inr v1 =>
    dsimp only at h
    cases h
    exact ru_callVX (tm_X11_needInstance hl0 (by omega) hq1) dX11_hostOf_2 rfl pm_X11_152 mf_X11_needInstance (ab_rcv_of hrc rfl) rfl rfl (Nat.le_of_ble_eq_true rfl) rfl
theorem tm_X11_hostOf {l : Launch} {g : ab_G} (hl0 : l.stackTraces = false) {d : Nat} (hd : 3 ≤ d) {l0 : Nat} {l1 : Int32} {m : ab_Mm} {z : ((Int32 ⊕ Nat) × ab_Mm)} (h : dd_X11_hostOf l0 l1 m = some z) : ab_Met l g yX11_hostOf cX11_hostOf 2 (some .int) [] d [.ref l0, .int l1] m (ab_oxI z.1) z.2 := by
  obtain ⟨d2, rfl⟩ : ∃ d2, d = d2 + 1 := ⟨d - 1, by omega⟩
  exact ab_of hl0 (by decide +kernel) (Nat.le_of_ble_eq_true rfl) (fun q => by cases q) rfl (te_X11_hostOf hl0 hd _ _ _ _ h)
theorem te_X11_bidOf {l : Launch} {g : ab_G} (hl0 : l.stackTraces = false) {d2 : Nat} (hd : 3 ≤ d2 + 1)   (l0 : Nat) (l1 : Int32) (m0 : ab_Mm) (z : ((Int32 ⊕ Nat) × ab_Mm)) (h : dd_X11_bidOf  l0 l1 m0 = some z) : ab_W l g cX11_bidOf RX11 2 (some .int) [] false (d2 + 1) (ab_oxI z.1) z.2 0 [(0, .ref l0), (1, .int l1)] [] m0 := by
  unfold dd_X11_bidOf at h
  refine ru_aload_n (i := 0) dX11_bidOf_0 rfl rfl <| ru_iload_n (i := 1) dX11_bidOf_1 rfl rfl <| ?_
  obtain ⟨_, hrc, h⟩ := Option.bind_eq_some_iff.mp h
  obtain ⟨q1, hq1, h⟩ := Option.bind_eq_some_iff.mp h
  obtain ⟨v1, m1⟩ := q1
  cases v1 with
  | inl v1 =>
    dsimp only at h
    refine ru_callV (tm_X11_needInstance hl0 (by omega) hq1) dX11_bidOf_2 rfl pm_X11_152 mf_X11_needInstance (ab_rcv_of hrc rfl) rfl rfl (Nat.le_of_ble_eq_true rfl) ?_
    refine ru_aload_n (i := 0) dX11_bidOf_5 rfl rfl <| ?_
    refine ru_getR h dX11_bidOf_6 lk_X11_26 ?_
    intro v2 h
    refine ru_getR h dX11_bidOf_9 lk_X11_155 ?_
    intro v3 h
    refine ru_iload_n (i := 1) dX11_bidOf_12 rfl rfl <| ru_iconst dX11_bidOf_13 kc_i_2 <| ?_
    obtain ⟨_, hrc, h⟩ := Option.bind_eq_some_iff.mp h
    obtain ⟨q4, hq4, h⟩ := Option.bind_eq_some_iff.mp h
    refine ru_callV (tm_X10_get hl0 (by omega) hq4) dX11_bidOf_14 rfl pm_X11_138 mf_X10_get (ab_rcv_of hrc rfl) rfl rfl (Nat.le_of_ble_eq_true rfl) ?_
    cases h
    exact ru_ret (v := some (.int _)) ⟨_, rfl, rfl, dX11_bidOf_17⟩
  | inr v1 =>
    dsimp only at h
    cases h
    exact ru_callVX (tm_X11_needInstance hl0 (by omega) hq1) dX11_bidOf_2 rfl pm_X11_152 mf_X11_needInstance (ab_rcv_of hrc rfl) rfl rfl (Nat.le_of_ble_eq_true rfl) rfl
theorem tm_X11_bidOf {l : Launch} {g : ab_G} (hl0 : l.stackTraces = false) {d : Nat} (hd : 3 ≤ d) {l0 : Nat} {l1 : Int32} {m : ab_Mm} {z : ((Int32 ⊕ Nat) × ab_Mm)} (h : dd_X11_bidOf l0 l1 m = some z) : ab_Met l g yX11_bidOf cX11_bidOf 2 (some .int) [] d [.ref l0, .int l1] m (ab_oxI z.1) z.2 := by
  obtain ⟨d2, rfl⟩ : ∃ d2, d = d2 + 1 := ⟨d - 1, by omega⟩
  exact ab_of hl0 (by decide +kernel) (Nat.le_of_ble_eq_true rfl) (fun q => by cases q) rfl (te_X11_bidOf hl0 hd _ _ _ _ h)
theorem te_X11_noticeOf {l : Launch} {g : ab_G} (hl0 : l.stackTraces = false) {d2 : Nat} (hd : 3 ≤ d2 + 1)   (l0 : Nat) (l1 : Int32) (m0 : ab_Mm) (z : ((Int32 ⊕ Nat) × ab_Mm)) (h : dd_X11_noticeOf  l0 l1 m0 = some z) : ab_W l g cX11_noticeOf RX11 2 (some .int) [] false (d2 + 1) (ab_oxI z.1) z.2 0 [(0, .ref l0), (1, .int l1)] [] m0 := by
  unfold dd_X11_noticeOf at h
  refine ru_aload_n (i := 0) dX11_noticeOf_0 rfl rfl <| ru_iload_n (i := 1) dX11_noticeOf_1 rfl rfl <| ?_
  obtain ⟨_, hrc, h⟩ := Option.bind_eq_some_iff.mp h
  obtain ⟨q1, hq1, h⟩ := Option.bind_eq_some_iff.mp h
  obtain ⟨v1, m1⟩ := q1
  cases v1 with
  | inl v1 =>
    dsimp only at h
    refine ru_callV (tm_X11_needInstance hl0 (by omega) hq1) dX11_noticeOf_2 rfl pm_X11_152 mf_X11_needInstance (ab_rcv_of hrc rfl) rfl rfl (Nat.le_of_ble_eq_true rfl) ?_
    refine ru_aload_n (i := 0) dX11_noticeOf_5 rfl rfl <| ?_
    refine ru_getR h dX11_noticeOf_6 lk_X11_26 ?_
    intro v2 h
    refine ru_getR h dX11_noticeOf_9 lk_X11_155 ?_
    intro v3 h
    refine ru_iload_n (i := 1) dX11_noticeOf_12 rfl rfl <| ru_iconst dX11_noticeOf_13 kc_i_4 <| ?_
    obtain ⟨_, hrc, h⟩ := Option.bind_eq_some_iff.mp h
    obtain ⟨q4, hq4, h⟩ := Option.bind_eq_some_iff.mp h
    refine ru_callV (tm_X10_get hl0 (by omega) hq4) dX11_noticeOf_14 rfl pm_X11_138 mf_X10_get (ab_rcv_of hrc rfl) rfl rfl (Nat.le_of_ble_eq_true rfl) ?_
    cases h
    exact ru_ret (v := some (.int _)) ⟨_, rfl, rfl, dX11_noticeOf_17⟩
  | inr v1 =>
    dsimp only at h
    cases h
    exact ru_callVX (tm_X11_needInstance hl0 (by omega) hq1) dX11_noticeOf_2 rfl pm_X11_152 mf_X11_needInstance (ab_rcv_of hrc rfl) rfl rfl (Nat.le_of_ble_eq_true rfl) rfl
theorem tm_X11_noticeOf {l : Launch} {g : ab_G} (hl0 : l.stackTraces = false) {d : Nat} (hd : 3 ≤ d) {l0 : Nat} {l1 : Int32} {m : ab_Mm} {z : ((Int32 ⊕ Nat) × ab_Mm)} (h : dd_X11_noticeOf l0 l1 m = some z) : ab_Met l g yX11_noticeOf cX11_noticeOf 2 (some .int) [] d [.ref l0, .int l1] m (ab_oxI z.1) z.2 := by
  obtain ⟨d2, rfl⟩ : ∃ d2, d = d2 + 1 := ⟨d - 1, by omega⟩
  exact ab_of hl0 (by decide +kernel) (Nat.le_of_ble_eq_true rfl) (fun q => by cases q) rfl (te_X11_noticeOf hl0 hd _ _ _ _ h)
theorem te_X11_waiting {l : Launch} {g : ab_G} (hl0 : l.stackTraces = false) {d2 : Nat} (hd : 1 ≤ d2 + 1)   (l0 : Nat) (m0 : ab_Mm) (z : (Int32 × ab_Mm)) (h : dd_X11_waiting  l0 m0 = some z) : ab_W l g cX11_waiting RX11 1 (some .int) [] false (d2 + 1) (.inl (some (.int z.1))) z.2 0 [(0, .ref l0)] [] m0 := by
  unfold dd_X11_waiting at h
  refine ru_aload_n (i := 0) dX11_waiting_0 rfl rfl <| ?_
  refine ru_getR h dX11_waiting_1 lk_X11_26 ?_
  intro v1 h
  refine ru_getR h dX11_waiting_4 lk_X11_158 ?_
  intro v2 h
  refine ru_getI h dX11_waiting_7 lk_X11_107 ?_
  intro v3 h
  cases h
  exact ru_ret (v := some (.int _)) ⟨_, rfl, rfl, dX11_waiting_10⟩
theorem tm_X11_waiting {l : Launch} {g : ab_G} (hl0 : l.stackTraces = false) {d : Nat} (hd : 1 ≤ d) {l0 : Nat} {m : ab_Mm} {z : (Int32 × ab_Mm)} (h : dd_X11_waiting l0 m = some z) : ab_Met l g yX11_waiting cX11_waiting 1 (some .int) [] d [.ref l0] m (.inl (some (.int z.1))) z.2 := by
  obtain ⟨d2, rfl⟩ : ∃ d2, d = d2 + 1 := ⟨d - 1, by omega⟩
  exact ab_of hl0 (by decide +kernel) (Nat.le_of_ble_eq_true rfl) (fun q => by cases q) rfl (te_X11_waiting hl0 hd _ _ _ h)
theorem tbb_X11_waitingBid_30 {l : Launch} {g : ab_G} (hl0 : l.stackTraces = false) {d2 : Nat} (hd : 2 ≤ d2 + 1)   (s0 : Int32) (m0 : ab_Mm) (z : (Int32 × ab_Mm)) (h : bb_X11_waitingBid_30  s0 m0 = some z) : ab_W l g cX11_waitingBid RX11 2 (some .int) [] false (d2 + 1) (.inl (some (.int z.1))) z.2 30 [] [.int s0] m0 := by
  unfold bb_X11_waitingBid_30 at h
  cases h
  exact ru_ret (v := some (.int _)) ⟨_, rfl, rfl, dX11_waitingBid_30⟩
theorem te_X11_waitingBid {l : Launch} {g : ab_G} (hl0 : l.stackTraces = false) {d2 : Nat} (hd : 2 ≤ d2 + 1)   (l0 : Nat) (l1 : Int32) (m0 : ab_Mm) (z : (Int32 × ab_Mm)) (h : dd_X11_waitingBid  l0 l1 m0 = some z) : ab_W l g cX11_waitingBid RX11 2 (some .int) [] false (d2 + 1) (.inl (some (.int z.1))) z.2 0 [(0, .ref l0), (1, .int l1)] [] m0 := by
  unfold dd_X11_waitingBid at h
  refine ru_aload_n (i := 0) dX11_waitingBid_0 rfl rfl <| ?_
  refine ru_getR h dX11_waitingBid_1 lk_X11_26 ?_
  intro v1 h
  refine ru_getR h dX11_waitingBid_4 lk_X11_158 ?_
  intro v2 h
  refine ru_iload_n (i := 1) dX11_waitingBid_7 rfl rfl <| ?_
  obtain ⟨_, hrc, h⟩ := Option.bind_eq_some_iff.mp h
  obtain ⟨q3, hq3, h⟩ := Option.bind_eq_some_iff.mp h
  refine ru_callV (tm_X10_has hl0 (by omega) hq3) dX11_waitingBid_8 rfl pm_X11_161 mf_X10_has (ab_rcv_of hrc rfl) rfl rfl (Nat.le_of_ble_eq_true rfl) ?_
  refine ru_if_eq (tgt := 29) dX11_waitingBid_11 (by decide) (fun hc => ?_) (fun hc => ?_)
  · rw [if_pos hc] at h
    refine ru_iconst dX11_waitingBid_29 kc_i_m1 <| ?_
    exact ru_pick [] rfl (tbb_X11_waitingBid_30 hl0 hd   _ _ _ h)
  · rw [if_neg hc] at h
    refine ru_aload_n (i := 0) dX11_waitingBid_14 rfl rfl <| ?_
    refine ru_getR h dX11_waitingBid_15 lk_X11_26 ?_
    intro v4 h
    refine ru_getR h dX11_waitingBid_18 lk_X11_158 ?_
    intro v5 h
    refine ru_iload_n (i := 1) dX11_waitingBid_21 rfl rfl <| ru_iconst dX11_waitingBid_22 kc_i_2 <| ?_
    obtain ⟨_, hrc, h⟩ := Option.bind_eq_some_iff.mp h
    obtain ⟨q6, hq6, h⟩ := Option.bind_eq_some_iff.mp h
    refine ru_callV (tm_X10_get hl0 (by omega) hq6) dX11_waitingBid_23 rfl pm_X11_138 mf_X10_get (ab_rcv_of hrc rfl) rfl rfl (Nat.le_of_ble_eq_true rfl) ?_
    refine ru_goto (tgt := 30) dX11_waitingBid_26 (by decide) <| ?_
    exact ru_pick [] rfl (tbb_X11_waitingBid_30 hl0 hd   _ _ _ h)
theorem tm_X11_waitingBid {l : Launch} {g : ab_G} (hl0 : l.stackTraces = false) {d : Nat} (hd : 2 ≤ d) {l0 : Nat} {l1 : Int32} {m : ab_Mm} {z : (Int32 × ab_Mm)} (h : dd_X11_waitingBid l0 l1 m = some z) : ab_Met l g yX11_waitingBid cX11_waitingBid 2 (some .int) [] d [.ref l0, .int l1] m (.inl (some (.int z.1))) z.2 := by
  obtain ⟨d2, rfl⟩ : ∃ d2, d = d2 + 1 := ⟨d - 1, by omega⟩
  exact ab_of hl0 (by decide +kernel) (Nat.le_of_ble_eq_true rfl) (fun q => by cases q) rfl (te_X11_waitingBid hl0 hd _ _ _ _ h)
theorem te_X11_spent {l : Launch} {g : ab_G} (hl0 : l.stackTraces = false) {d2 : Nat} (hd : 3 ≤ d2 + 1)   (l0 : Nat) (l1 : Int32) (m0 : ab_Mm) (z : ((Int64 ⊕ Nat) × ab_Mm)) (h : dd_X11_spent  l0 l1 m0 = some z) : ab_W l g cX11_spent RX11 2 (some .long) [] false (d2 + 1) (ab_oxJ z.1) z.2 0 [(0, .ref l0), (1, .int l1)] [] m0 := by
  unfold dd_X11_spent at h
  refine ru_aload_n (i := 0) dX11_spent_0 rfl rfl <| ru_aload_n (i := 0) dX11_spent_1 rfl rfl <| ?_
  refine ru_getR h dX11_spent_2 lk_X11_19 ?_
  intro v1 h
  refine ru_getR h dX11_spent_5 lk_X11_165 ?_
  intro v2 h
  refine ru_iload_n (i := 1) dX11_spent_8 rfl rfl <| ?_
  obtain ⟨_, hrc, h⟩ := Option.bind_eq_some_iff.mp h
  obtain ⟨q3, hq3, h⟩ := Option.bind_eq_some_iff.mp h
  obtain ⟨v3, m3⟩ := q3
  cases v3 with
  | inl v3 =>
    dsimp only at h
    refine ru_callV (tm_X11_needRow hl0 (by omega) hq3) dX11_spent_9 rfl pm_X11_115 mf_X11_needRow (ab_rcv_of hrc rfl) rfl rfl (Nat.le_of_ble_eq_true rfl) ?_
    refine ru_aload_n (i := 0) dX11_spent_12 rfl rfl <| ?_
    refine ru_getR h dX11_spent_13 lk_X11_26 ?_
    intro v4 h
    refine ru_iload_n (i := 1) dX11_spent_16 rfl rfl <| ?_
    obtain ⟨_, hrc, h⟩ := Option.bind_eq_some_iff.mp h
    obtain ⟨q5, hq5, h⟩ := Option.bind_eq_some_iff.mp h
    refine ru_callV (tm_X8_spentBy hl0 (by omega) hq5) dX11_spent_17 rfl pm_X11_168 mf_X8_spentBy (ab_rcv_of hrc rfl) rfl rfl (Nat.le_of_ble_eq_true rfl) ?_
    cases h
    exact ru_ret (v := some (.long _)) ⟨rfl, dX11_spent_20⟩
  | inr v3 =>
    dsimp only at h
    cases h
    exact ru_callVX (tm_X11_needRow hl0 (by omega) hq3) dX11_spent_9 rfl pm_X11_115 mf_X11_needRow (ab_rcv_of hrc rfl) rfl rfl (Nat.le_of_ble_eq_true rfl) rfl
theorem tm_X11_spent {l : Launch} {g : ab_G} (hl0 : l.stackTraces = false) {d : Nat} (hd : 3 ≤ d) {l0 : Nat} {l1 : Int32} {m : ab_Mm} {z : ((Int64 ⊕ Nat) × ab_Mm)} (h : dd_X11_spent l0 l1 m = some z) : ab_Met l g yX11_spent cX11_spent 2 (some .long) [] d [.ref l0, .int l1] m (ab_oxJ z.1) z.2 := by
  obtain ⟨d2, rfl⟩ : ∃ d2, d = d2 + 1 := ⟨d - 1, by omega⟩
  exact ab_of hl0 (by decide +kernel) (Nat.le_of_ble_eq_true rfl) (fun q => by cases q) rfl (te_X11_spent hl0 hd _ _ _ _ h)
theorem te_X11_hourlyBill {l : Launch} {g : ab_G} (hl0 : l.stackTraces = false) {d2 : Nat} (hd : 5 ≤ d2 + 1)   (l0 : Nat) (l1 : Int32) (m0 : ab_Mm) (z : ((Int32 ⊕ Nat) × ab_Mm)) (h : dd_X11_hourlyBill  l0 l1 m0 = some z) : ab_W l g cX11_hourlyBill RX11 2 (some .int) [] false (d2 + 1) (ab_oxI z.1) z.2 0 [(0, .ref l0), (1, .int l1)] [] m0 := by
  unfold dd_X11_hourlyBill at h
  refine ru_aload_n (i := 0) dX11_hourlyBill_0 rfl rfl <| ru_aload_n (i := 0) dX11_hourlyBill_1 rfl rfl <| ?_
  refine ru_getR h dX11_hourlyBill_2 lk_X11_19 ?_
  intro v1 h
  refine ru_getR h dX11_hourlyBill_5 lk_X11_165 ?_
  intro v2 h
  refine ru_iload_n (i := 1) dX11_hourlyBill_8 rfl rfl <| ?_
  obtain ⟨_, hrc, h⟩ := Option.bind_eq_some_iff.mp h
  obtain ⟨q3, hq3, h⟩ := Option.bind_eq_some_iff.mp h
  obtain ⟨v3, m3⟩ := q3
  cases v3 with
  | inl v3 =>
    dsimp only at h
    refine ru_callV (tm_X11_needRow hl0 (by omega) hq3) dX11_hourlyBill_9 rfl pm_X11_115 mf_X11_needRow (ab_rcv_of hrc rfl) rfl rfl (Nat.le_of_ble_eq_true rfl) ?_
    refine ru_aload_n (i := 0) dX11_hourlyBill_12 rfl rfl <| ?_
    refine ru_getR h dX11_hourlyBill_13 lk_X11_43 ?_
    intro v4 h
    refine ru_aload_n (i := 0) dX11_hourlyBill_16 rfl rfl <| ?_
    refine ru_getR h dX11_hourlyBill_17 lk_X11_19 ?_
    intro v5 h
    refine ru_aload_n (i := 0) dX11_hourlyBill_20 rfl rfl <| ?_
    refine ru_getR h dX11_hourlyBill_21 lk_X11_26 ?_
    intro v6 h
    obtain ⟨_, hrc, h⟩ := Option.bind_eq_some_iff.mp h
    obtain ⟨q7, hq7, h⟩ := Option.bind_eq_some_iff.mp h
    refine ru_callV (tm_X0_reckon hl0 (by omega) hq7) dX11_hourlyBill_24 rfl pm_X11_172 mf_X0_reckon (ab_rcv_of hrc rfl) rfl rfl (Nat.le_of_ble_eq_true rfl) ?_
    refine ru_aload_n (i := 0) dX11_hourlyBill_27 rfl rfl <| ?_
    refine ru_getR h dX11_hourlyBill_28 lk_X11_43 ?_
    intro v8 h
    refine ru_getR h dX11_hourlyBill_31 lk_X11_176 ?_
    intro v9 h
    refine ru_iload_n (i := 1) dX11_hourlyBill_34 rfl rfl <| ru_iconst dX11_hourlyBill_35 kc_i_0 <| ?_
    obtain ⟨_, hrc, h⟩ := Option.bind_eq_some_iff.mp h
    obtain ⟨q10, hq10, h⟩ := Option.bind_eq_some_iff.mp h
    refine ru_callV (tm_X10_get hl0 (by omega) hq10) dX11_hourlyBill_36 rfl pm_X11_138 mf_X10_get (ab_rcv_of hrc rfl) rfl rfl (Nat.le_of_ble_eq_true rfl) ?_
    cases h
    exact ru_ret (v := some (.int _)) ⟨_, rfl, rfl, dX11_hourlyBill_39⟩
  | inr v3 =>
    dsimp only at h
    cases h
    exact ru_callVX (tm_X11_needRow hl0 (by omega) hq3) dX11_hourlyBill_9 rfl pm_X11_115 mf_X11_needRow (ab_rcv_of hrc rfl) rfl rfl (Nat.le_of_ble_eq_true rfl) rfl
theorem tm_X11_hourlyBill {l : Launch} {g : ab_G} (hl0 : l.stackTraces = false) {d : Nat} (hd : 5 ≤ d) {l0 : Nat} {l1 : Int32} {m : ab_Mm} {z : ((Int32 ⊕ Nat) × ab_Mm)} (h : dd_X11_hourlyBill l0 l1 m = some z) : ab_Met l g yX11_hourlyBill cX11_hourlyBill 2 (some .int) [] d [.ref l0, .int l1] m (ab_oxI z.1) z.2 := by
  obtain ⟨d2, rfl⟩ : ∃ d2, d = d2 + 1 := ⟨d - 1, by omega⟩
  exact ab_of hl0 (by decide +kernel) (Nat.le_of_ble_eq_true rfl) (fun q => by cases q) rfl (te_X11_hourlyBill hl0 hd _ _ _ _ h)
theorem te_X11_covered {l : Launch} {g : ab_G} (hl0 : l.stackTraces = false) {d2 : Nat} (hd : 4 ≤ d2 + 1)   (l0 : Nat) (l1 : Int32) (l2 : Int32) (m0 : ab_Mm) (z : ((Int32 ⊕ Nat) × ab_Mm)) (h : dd_X11_covered  l0 l1 l2 m0 = some z) : ab_W l g cX11_covered RX11 3 (some .int) [] false (d2 + 1) (ab_oxI z.1) z.2 0 [(0, .ref l0), (1, .int l1), (2, .int l2)] [] m0 := by
  unfold dd_X11_covered at h
  refine ru_aload_n (i := 0) dX11_covered_0 rfl rfl <| ru_aload_n (i := 0) dX11_covered_1 rfl rfl <| ?_
  refine ru_getR h dX11_covered_2 lk_X11_19 ?_
  intro v1 h
  refine ru_getR h dX11_covered_5 lk_X11_165 ?_
  intro v2 h
  refine ru_iload_n (i := 1) dX11_covered_8 rfl rfl <| ?_
  obtain ⟨_, hrc, h⟩ := Option.bind_eq_some_iff.mp h
  obtain ⟨q3, hq3, h⟩ := Option.bind_eq_some_iff.mp h
  obtain ⟨v3, m3⟩ := q3
  cases v3 with
  | inl v3 =>
    dsimp only at h
    refine ru_callV (tm_X11_needRow hl0 (by omega) hq3) dX11_covered_9 rfl pm_X11_115 mf_X11_needRow (ab_rcv_of hrc rfl) rfl rfl (Nat.le_of_ble_eq_true rfl) ?_
    refine ru_aload_n (i := 0) dX11_covered_12 rfl rfl <| ru_aload_n (i := 0) dX11_covered_13 rfl rfl <| ?_
    refine ru_getR h dX11_covered_14 lk_X11_19 ?_
    intro v4 h
    refine ru_getR h dX11_covered_17 lk_X11_132 ?_
    intro v5 h
    refine ru_iload_n (i := 2) dX11_covered_20 rfl rfl <| ?_
    obtain ⟨_, hrc, h⟩ := Option.bind_eq_some_iff.mp h
    obtain ⟨q6, hq6, h⟩ := Option.bind_eq_some_iff.mp h
    obtain ⟨v6, m6⟩ := q6
    cases v6 with
    | inl v6 =>
      dsimp only at h
      refine ru_callV (tm_X11_needRow hl0 (by omega) hq6) dX11_covered_21 rfl pm_X11_115 mf_X11_needRow (ab_rcv_of hrc rfl) rfl rfl (Nat.le_of_ble_eq_true rfl) ?_
      refine ru_aload_n (i := 0) dX11_covered_24 rfl rfl <| ?_
      refine ru_getR h dX11_covered_25 lk_X11_26 ?_
      intro v7 h
      refine ru_iload_n (i := 1) dX11_covered_28 rfl rfl <| ru_iload_n (i := 2) dX11_covered_29 rfl rfl <| ?_
      obtain ⟨_, hrc, h⟩ := Option.bind_eq_some_iff.mp h
      obtain ⟨q8, hq8, h⟩ := Option.bind_eq_some_iff.mp h
      refine ru_callV (tm_X8_regulars hl0 (by omega) hq8) dX11_covered_30 rfl pm_X11_179 mf_X8_regulars (ab_rcv_of hrc rfl) rfl rfl (Nat.le_of_ble_eq_true rfl) ?_
      refine ru_aload_n (i := 0) dX11_covered_33 rfl rfl <| ?_
      refine ru_getR h dX11_covered_34 lk_X11_19 ?_
      intro v9 h
      refine ru_iload_n (i := 1) dX11_covered_37 rfl rfl <| ru_iload_n (i := 2) dX11_covered_38 rfl rfl <| ru_aload_n (i := 0) dX11_covered_39 rfl rfl <| ?_
      refine ru_getR h dX11_covered_40 lk_X11_26 ?_
      intro v10 h
      refine ru_getI h dX11_covered_43 lk_X11_112 ?_
      intro v11 h
      obtain ⟨_, hrc, h⟩ := Option.bind_eq_some_iff.mp h
      obtain ⟨q12, hq12, h⟩ := Option.bind_eq_some_iff.mp h
      refine ru_callV (tm_X1_reserved hl0 (by omega) hq12) dX11_covered_46 rfl pm_X11_182 mf_X1_reserved (ab_rcv_of hrc rfl) rfl rfl (Nat.le_of_ble_eq_true rfl) ?_
      refine ru_mmin dX11_covered_49 ⟨pm_X11_186, pq_min_s, pq_ini, pq_min_c⟩ (Nat.le_of_ble_eq_true rfl) <| ?_
      cases h
      exact ru_ret (v := some (.int _)) ⟨_, rfl, rfl, dX11_covered_52⟩
    | inr v6 =>
      dsimp only at h
      cases h
      exact ru_callVX (tm_X11_needRow hl0 (by omega) hq6) dX11_covered_21 rfl pm_X11_115 mf_X11_needRow (ab_rcv_of hrc rfl) rfl rfl (Nat.le_of_ble_eq_true rfl) rfl
  | inr v3 =>
    dsimp only at h
    cases h
    exact ru_callVX (tm_X11_needRow hl0 (by omega) hq3) dX11_covered_9 rfl pm_X11_115 mf_X11_needRow (ab_rcv_of hrc rfl) rfl rfl (Nat.le_of_ble_eq_true rfl) rfl
