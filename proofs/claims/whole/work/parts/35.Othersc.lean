/-! ===== the methods keep to these functions (by program) ===== -/
theorem te_X5_restart {l : Launch} {g : ab_G} (hl0 : l.stackTraces = false) {d2 : Nat} (hd : 2 ≤ d2 + 1)   (l0 : Nat) (m0 : ab_Mm) (z : (Unit × ab_Mm)) (h : dd_X5_restart  l0 m0 = some z) : ab_W l g cX5_restart RX5 1 none [] false (d2 + 1) (.inl none) z.2 0 [(0, .ref l0)] [] m0 := by
  unfold dd_X5_restart at h
  refine ru_aload_n (i := 0) dX5_restart_0 rfl rfl <| ?_
  refine ru_getR h dX5_restart_1 lk_X5_9 ?_
  intro v1 h
  refine ru_iconst dX5_restart_4 kc_i_0 <| ?_
  obtain ⟨q2, hq2, h⟩ := Option.bind_eq_some_iff.mp h
  refine ru_callS (tm_J7_fill_53178 hl0 (by omega) hq2) dX5_restart_5 rfl pm_X5_22 mf_J7_fill_53178 rfl rfl (Nat.le_of_ble_eq_true rfl) ?_
  refine ru_aload_n (i := 0) dX5_restart_8 rfl rfl <| ru_iconst dX5_restart_9 kc_i_0 <| ?_
  refine ru_putI h dX5_restart_10 lk_X5_18 ?_
  intro m3 h
  cases h
  exact ru_ret (v := none) ⟨rfl, dX5_restart_13⟩
theorem tm_X5_restart {l : Launch} {g : ab_G} (hl0 : l.stackTraces = false) {d : Nat} (hd : 2 ≤ d) {l0 : Nat} {m : ab_Mm} {z : (Unit × ab_Mm)} (h : dd_X5_restart l0 m = some z) : ab_Met l g yX5_restart cX5_restart 1 none [] d [.ref l0] m (.inl none) z.2 := by
  obtain ⟨d2, rfl⟩ : ∃ d2, d = d2 + 1 := ⟨d - 1, by omega⟩
  exact ab_of hl0 (by decide +kernel) (Nat.le_of_ble_eq_true rfl) (fun q => by cases q) rfl (te_X5_restart hl0 hd _ _ _ h)
theorem tbb_X5_step_97 {l : Launch} {g : ab_G} (hl0 : l.stackTraces = false) {d2 : Nat} (hd : 1 ≤ d2 + 1)    (m0 : ab_Mm) (z : (Int32 × ab_Mm)) (h : bb_X5_step_97   m0 = some z) : ab_W l g cX5_step RX5 3 (some .boolean) [] false (d2 + 1) (.inl (some (.int z.1))) z.2 97 [] [] m0 := by
  unfold bb_X5_step_97 at h
  refine ru_iconst dX5_step_97 kc_i_0 <| ?_
  cases h
  exact ru_ret (v := some (.int _)) ⟨_, rfl, ab_nz0, dX5_step_98⟩
theorem tbb_X5_step_2 {l : Launch} {g : ab_G} (hl0 : l.stackTraces = false) {d2 : Nat} (hd : 1 ≤ d2 + 1)   : ∀ (n : Nat) (l0 : Nat) (l1 : Nat) (l2 : Int32) (m0 : ab_Mm) (z : (Int32 × ab_Mm)), bb_X5_step_2  n l0 l1 l2 m0 = some z → ab_W l g cX5_step RX5 3 (some .boolean) [] false (d2 + 1) (.inl (some (.int z.1))) z.2 2 [(0, .ref l0), (1, .ref l1), (2, .int l2)] [] m0 := by
  intro n
  induction n with
  | zero => intro l0 l1 l2 m0 z h; cases h
  | succ n ih =>
    intro l0 l1 l2 m0 z h
    rw [bb_X5_step_2] at h
    refine ru_iload_n (i := 2) dX5_step_2 rfl rfl <| ru_aload_n (i := 0) dX5_step_3 rfl rfl <| ?_
    refine ru_getR h dX5_step_4 lk_X5_9 ?_
    intro v1 h
    refine ru_alen 0 h dX5_step_7 ?_
    intro v2 h
    refine ru_icmp_ge (tgt := 97) dX5_step_8 (by decide) (fun hc => ?_) (fun hc => ?_)
    · rw [if_pos hc] at h
      exact ru_pick [] rfl (tbb_X5_step_97 hl0 hd    _ _ h)
    · rw [if_neg hc] at h
      refine ru_iload_n (i := 2) dX5_step_11 rfl rfl <| ru_aload_n (i := 0) dX5_step_12 rfl rfl <| ?_
      refine ru_getR h dX5_step_13 lk_X5_15 ?_
      intro v3 h
      refine ru_alen 0 h dX5_step_16 ?_
      intro v4 h
      refine ru_icmp_ge (tgt := 97) dX5_step_17 (by decide) (fun hc => ?_) (fun hc => ?_)
      · rw [if_pos hc] at h
        exact ru_pick [] rfl (tbb_X5_step_97 hl0 hd    _ _ h)
      · rw [if_neg hc] at h
        refine ru_iload_n (i := 2) dX5_step_20 rfl rfl <| ru_aload_n (i := 1) dX5_step_21 rfl rfl <| ?_
        refine ru_alen 0 h dX5_step_22 ?_
        intro v5 h
        refine ru_icmp_ge (tgt := 97) dX5_step_23 (by decide) (fun hc => ?_) (fun hc => ?_)
        · rw [if_pos hc] at h
          exact ru_pick [] rfl (tbb_X5_step_97 hl0 hd    _ _ h)
        · rw [if_neg hc] at h
          refine ru_aload_n (i := 0) dX5_step_26 rfl rfl <| ?_
          refine ru_getR h dX5_step_27 lk_X5_9 ?_
          intro v6 h
          refine ru_iload_n (i := 2) dX5_step_30 rfl rfl <| ?_
          refine ru_iaload h dX5_step_31 ?_
          intro v7 h
          refine ru_aload_n (i := 0) dX5_step_32 rfl rfl <| ?_
          refine ru_getR h dX5_step_33 lk_X5_15 ?_
          intro v8 h
          refine ru_iload_n (i := 2) dX5_step_36 rfl rfl <| ?_
          refine ru_iaload h dX5_step_37 ?_
          intro v9 h
          refine ru_icmp_ge (tgt := 65) dX5_step_38 (by decide) (fun hc => ?_) (fun hc => ?_)
          · rw [if_pos hc] at h
            refine ru_aload_n (i := 0) dX5_step_65 rfl rfl <| ru_dup dX5_step_66 rfl <| ?_
            refine ru_getI h dX5_step_67 lk_X5_18 ?_
            intro v10 h
            refine ru_aload_n (i := 0) dX5_step_70 rfl rfl <| ?_
            refine ru_getR h dX5_step_71 lk_X5_9 ?_
            intro v11 h
            refine ru_iload_n (i := 2) dX5_step_74 rfl rfl <| ?_
            refine ru_iaload h dX5_step_75 ?_
            intro v12 h
            refine ru_aload_n (i := 1) dX5_step_76 rfl rfl <| ru_iload_n (i := 2) dX5_step_77 rfl rfl <| ?_
            refine ru_iaload h dX5_step_78 ?_
            intro v13 h
            refine ru_imul dX5_step_79 <| ru_isub dX5_step_80 <| ?_
            refine ru_putI h dX5_step_81 lk_X5_18 ?_
            intro m14 h
            refine ru_aload_n (i := 0) dX5_step_84 rfl rfl <| ?_
            refine ru_getR h dX5_step_85 lk_X5_9 ?_
            intro v15 h
            refine ru_iload_n (i := 2) dX5_step_88 rfl rfl <| ru_iconst dX5_step_89 kc_i_0 <| ?_
            refine ru_iastore h dX5_step_90 ?_
            intro m16 h
            refine ru_iinc dX5_step_91 (by decide) rfl (ab_inc kc_i_1) <| ru_goto (tgt := 2) dX5_step_94 (by decide) <| ?_
            exact ru_pick [0, 1, 2] rfl (ih _ _ _ _ _ h)
          · rw [if_neg hc] at h
            refine ru_aload_n (i := 0) dX5_step_41 rfl rfl <| ?_
            refine ru_getR h dX5_step_42 lk_X5_9 ?_
            intro v17 h
            refine ru_iload_n (i := 2) dX5_step_45 rfl rfl <| ru_dup2 dX5_step_46 rfl rfl <| ?_
            refine ru_iaload h dX5_step_47 ?_
            intro v18 h
            refine ru_iconst dX5_step_48 kc_i_1 <| ru_iadd dX5_step_49 <| ?_
            refine ru_iastore h dX5_step_50 ?_
            intro m19 h
            refine ru_aload_n (i := 0) dX5_step_51 rfl rfl <| ru_dup dX5_step_52 rfl <| ?_
            refine ru_getI h dX5_step_53 lk_X5_18 ?_
            intro v20 h
            refine ru_aload_n (i := 1) dX5_step_56 rfl rfl <| ru_iload_n (i := 2) dX5_step_57 rfl rfl <| ?_
            refine ru_iaload h dX5_step_58 ?_
            intro v21 h
            refine ru_iadd dX5_step_59 <| ?_
            refine ru_putI h dX5_step_60 lk_X5_18 ?_
            intro m22 h
            refine ru_iconst dX5_step_63 kc_i_1 <| ?_
            cases h
            exact ru_ret (v := some (.int _)) ⟨_, rfl, ab_nz1, dX5_step_64⟩
theorem te_X5_step {l : Launch} {g : ab_G} (hl0 : l.stackTraces = false) {d2 : Nat} (hd : 1 ≤ d2 + 1)   (l0 : Nat) (l1 : Nat) (m0 : ab_Mm) (z : (Int32 × ab_Mm)) (h : dd_X5_step  l0 l1 m0 = some z) : ab_W l g cX5_step RX5 3 (some .boolean) [] false (d2 + 1) (.inl (some (.int z.1))) z.2 0 [(0, .ref l0), (1, .ref l1)] [] m0 := by
  unfold dd_X5_step at h
  refine ru_iconst dX5_step_0 kc_i_0 <| ru_istore_n (i := 2) dX5_step_1 rfl (by decide) <| ?_
  exact ru_pick [0, 1, 2] rfl (tbb_X5_step_2 hl0 hd   _ _ _ _ _ _ h)
theorem tm_X5_step {l : Launch} {g : ab_G} (hl0 : l.stackTraces = false) {d : Nat} (hd : 1 ≤ d) {l0 : Nat} {l1 : Nat} {m : ab_Mm} {z : (Int32 × ab_Mm)} (h : dd_X5_step l0 l1 m = some z) : ab_Met l g yX5_step cX5_step 3 (some .boolean) [] d [.ref l0, .ref l1] m (.inl (some (.int z.1))) z.2 := by
  obtain ⟨d2, rfl⟩ : ∃ d2, d = d2 + 1 := ⟨d - 1, by omega⟩
  exact ab_of hl0 (by decide +kernel) (Nat.le_of_ble_eq_true rfl) (fun q => by cases q) rfl (te_X5_step hl0 hd _ _ _ _ h)
theorem te_X6_init {l : Launch} {g : ab_G} (hl0 : l.stackTraces = false) {d2 : Nat} (hd : 2 ≤ d2 + 1)   (l0 : Nat) (m0 : ab_Mm) (z : (Unit × ab_Mm)) (h : dd_X6_init  l0 m0 = some z) : ab_W l g cX6_init RX6 1 none [] true (d2 + 1) (.inl none) z.2 0 [(0, .ref l0)] [] m0 := by
  unfold dd_X6_init at h
  refine ru_aload_n (i := 0) dX6_init_0 rfl rfl <| ru_objInit dX6_init_1 ⟨pm_X6_3, po_inst, po_code⟩ (Nat.le_of_ble_eq_true rfl) <| ru_aload_n (i := 0) dX6_init_4 rfl rfl <| ru_sipush dX6_init_5 kc_s_729 <| ?_
  refine ru_newI h dX6_init_8 fa_int ?_
  intro q1 h
  refine ru_putR h dX6_init_10 lk_X6_11 (fun _ => ⟨rfl, rfl⟩) rfl (fun q hq => by cases hq; rfl) (fun q hq => by cases hq; exact pf_X6_11) ?_
  intro m2 h
  refine ru_aload_n (i := 0) dX6_init_13 rfl rfl <| ru_sipush dX6_init_14 kc_s_729 <| ?_
  refine ru_newI h dX6_init_17 fa_int ?_
  intro q3 h
  refine ru_putR h dX6_init_19 lk_X6_15 (fun _ => ⟨rfl, rfl⟩) rfl (fun q hq => by cases hq; rfl) (fun q hq => by cases hq; exact pf_X6_15) ?_
  intro m4 h
  refine ru_aload_n (i := 0) dX6_init_22 rfl rfl <| ?_
  refine ru_new h dX6_init_23 nw_X6_18 ?_
  intro q5 h
  refine ru_dup dX6_init_26 rfl <| ru_sipush dX6_init_27 kc_s_729 <| ru_iconst dX6_init_30 kc_i_2 <| ?_
  obtain ⟨q6, hq6, h⟩ := Option.bind_eq_some_iff.mp h
  refine ru_callI rfl (tm_X10_init hl0 (by omega) hq6) dX6_init_31 rfl (Or.inl pm_X6_20) mf_X10_init rfl rfl (Nat.le_of_ble_eq_true rfl) ?_
  refine ru_putR h dX6_init_34 lk_X6_23 (fun _ => ⟨rfl, rfl⟩) rfl (fun q hq => by cases hq; rfl) (fun q hq => by cases hq; exact pf_X6_23) ?_
  intro m7 h
  refine ru_aload_n (i := 0) dX6_init_37 rfl rfl <| ru_bipush dX6_init_38 kc_b_6 <| ?_
  refine ru_newI h dX6_init_40 fa_int ?_
  intro q8 h
  refine ru_putR h dX6_init_42 lk_X6_27 (fun _ => ⟨rfl, rfl⟩) rfl (fun q hq => by cases hq; rfl) (fun q hq => by cases hq; exact pf_X6_27) ?_
  intro m9 h
  refine ru_aload_n (i := 0) dX6_init_45 rfl rfl <| ?_
  refine ru_new h dX6_init_46 nw_X6_30 ?_
  intro q10 h
  refine ru_dup dX6_init_49 rfl <| ?_
  obtain ⟨q11, hq11, h⟩ := Option.bind_eq_some_iff.mp h
  refine ru_callI rfl (tm_X5_init hl0 (by omega) hq11) dX6_init_50 rfl (Or.inr pn_X6_32) mf_X5_init rfl rfl (Nat.le_of_ble_eq_true rfl) ?_
  refine ru_putR h dX6_init_53 lk_X6_33 (fun _ => ⟨rfl, rfl⟩) rfl (fun q hq => by cases hq; rfl) (fun q hq => by cases hq; exact pf_X6_33) ?_
  intro m12 h
  refine ru_aload_n (i := 0) dX6_init_56 rfl rfl <| ?_
  refine ru_new h dX6_init_57 nw_X6_30 ?_
  intro q13 h
  refine ru_dup dX6_init_60 rfl <| ?_
  obtain ⟨q14, hq14, h⟩ := Option.bind_eq_some_iff.mp h
  refine ru_callI rfl (tm_X5_init hl0 (by omega) hq14) dX6_init_61 rfl (Or.inr pn_X6_32) mf_X5_init rfl rfl (Nat.le_of_ble_eq_true rfl) ?_
  refine ru_putR h dX6_init_64 lk_X6_37 (fun _ => ⟨rfl, rfl⟩) rfl (fun q hq => by cases hq; rfl) (fun q hq => by cases hq; exact pf_X6_37) ?_
  intro m15 h
  cases h
  exact ru_ret (v := none) ⟨rfl, dX6_init_67⟩
theorem tm_X6_init {l : Launch} {g : ab_G} (hl0 : l.stackTraces = false) {d : Nat} (hd : 2 ≤ d) {l0 : Nat} {m : ab_Mm} {z : (Unit × ab_Mm)} (h : dd_X6_init l0 m = some z) : ab_Met l g yX6_init cX6_init 1 none [] d [.ref l0] m (.inl none) z.2 := by
  obtain ⟨d2, rfl⟩ : ∃ d2, d = d2 + 1 := ⟨d - 1, by omega⟩
  exact ab_of hl0 (by decide +kernel) (Nat.le_of_ble_eq_true rfl) (fun _ => rfl) rfl (te_X6_init hl0 hd _ _ _ h)
theorem tbb_X6_countTypes_78 {l : Launch} {g : ab_G} (hl0 : l.stackTraces = false) {d2 : Nat} (hd : 3 ≤ d2 + 1)   (l2 : Int32) (m0 : ab_Mm) (z : (Int32 × ab_Mm)) (h : bb_X6_countTypes_78  l2 m0 = some z) : ab_W l g cX6_countTypes RX6 6 (some .int) [] false (d2 + 1) (.inl (some (.int z.1))) z.2 78 [(2, .int l2)] [] m0 := by
  unfold bb_X6_countTypes_78 at h
  refine ru_iload_n (i := 2) dX6_countTypes_78 rfl rfl <| ?_
  cases h
  exact ru_ret (v := some (.int _)) ⟨_, rfl, rfl, dX6_countTypes_79⟩
theorem tbb_X6_countTypes_7 {l : Launch} {g : ab_G} (hl0 : l.stackTraces = false) {d2 : Nat} (hd : 3 ≤ d2 + 1)   : ∀ (n : Nat) (l0 : Nat) (l1 : Nat) (l2 : Int32) (l3 : Int32) (l4 : Int32) (m0 : ab_Mm) (z : (Int32 × ab_Mm)), bb_X6_countTypes_7  n l0 l1 l2 l3 l4 m0 = some z → ab_W l g cX6_countTypes RX6 6 (some .int) [] false (d2 + 1) (.inl (some (.int z.1))) z.2 7 [(0, .ref l0), (1, .ref l1), (2, .int l2), (3, .int l3), (4, .int l4)] [] m0 := by
  intro n
  induction n with
  | zero => intro l0 l1 l2 l3 l4 m0 z h; cases h
  | succ n ih =>
    intro l0 l1 l2 l3 l4 m0 z h
    rw [bb_X6_countTypes_7] at h
    refine ru_iload dX6_countTypes_7 rfl <| ru_aload_n (i := 0) dX6_countTypes_9 rfl rfl <| ?_
    refine ru_getR h dX6_countTypes_10 lk_X6_27 ?_
    intro v1 h
    refine ru_alen 0 h dX6_countTypes_13 ?_
    intro v2 h
    refine ru_icmp_ge (tgt := 78) dX6_countTypes_14 (by decide) (fun hc => ?_) (fun hc => ?_)
    · rw [if_pos hc] at h
      exact ru_pick [2] rfl (tbb_X6_countTypes_78 hl0 hd   _ _ _ h)
    · rw [if_neg hc] at h
      refine ru_iload dX6_countTypes_17 rfl <| ru_aload_n (i := 0) dX6_countTypes_19 rfl rfl <| ?_
      refine ru_getR h dX6_countTypes_20 lk_X6_33 ?_
      intro v3 h
      refine ru_getR h dX6_countTypes_23 lk_X6_92 ?_
      intro v4 h
      refine ru_alen 0 h dX6_countTypes_26 ?_
      intro v5 h
      refine ru_icmp_ge (tgt := 78) dX6_countTypes_27 (by decide) (fun hc => ?_) (fun hc => ?_)
      · rw [if_pos hc] at h
        exact ru_pick [2] rfl (tbb_X6_countTypes_78 hl0 hd   _ _ _ h)
      · rw [if_neg hc] at h
        refine ru_aload_n (i := 1) dX6_countTypes_30 rfl rfl <| ru_iload dX6_countTypes_31 rfl <| ?_
        obtain ⟨_, hrc, h⟩ := Option.bind_eq_some_iff.mp h
        obtain ⟨q6, hq6, h⟩ := Option.bind_eq_some_iff.mp h
        refine ru_callV (tm_X8_manyOf hl0 (by omega) hq6) dX6_countTypes_33 rfl pm_X6_95 mf_X8_manyOf (ab_rcv_of hrc rfl) rfl rfl (Nat.le_of_ble_eq_true rfl) ?_
        refine ru_istore dX6_countTypes_36 (by decide) <| ru_aload_n (i := 0) dX6_countTypes_38 rfl rfl <| ?_
        refine ru_getR h dX6_countTypes_39 lk_X6_33 ?_
        intro v7 h
        refine ru_getR h dX6_countTypes_42 lk_X6_92 ?_
        intro v8 h
        refine ru_iload dX6_countTypes_45 rfl <| ru_iload dX6_countTypes_47 rfl <| ?_
        refine ru_iastore h dX6_countTypes_49 ?_
        intro m9 h
        refine ru_aload_n (i := 0) dX6_countTypes_50 rfl rfl <| ?_
        refine ru_getR h dX6_countTypes_51 lk_X6_27 ?_
        intro v10 h
        refine ru_iload dX6_countTypes_54 rfl <| ru_iload_n (i := 3) dX6_countTypes_56 rfl rfl <| ?_
        refine ru_iastore h dX6_countTypes_57 ?_
        intro m11 h
        refine ru_iload_n (i := 2) dX6_countTypes_58 rfl rfl <| ru_iload dX6_countTypes_59 rfl <| ru_iload_n (i := 3) dX6_countTypes_61 rfl rfl <| ru_imul dX6_countTypes_62 <| ru_iadd dX6_countTypes_63 <| ru_istore_n (i := 2) dX6_countTypes_64 rfl (by decide) <| ru_iload_n (i := 3) dX6_countTypes_65 rfl rfl <| ru_iload dX6_countTypes_66 rfl <| ru_iconst dX6_countTypes_68 kc_i_1 <| ru_iadd dX6_countTypes_69 <| ?_
        refine ru_imul dX6_countTypes_70 <| ru_istore_n (i := 3) dX6_countTypes_71 rfl (by decide) <| ru_iinc dX6_countTypes_72 (by decide) rfl (ab_inc kc_i_1) <| ru_goto (tgt := 7) dX6_countTypes_75 (by decide) <| ?_
        exact ru_pick [0, 1, 2, 3, 4] rfl (ih _ _ _ _ _ _ _ h)
theorem te_X6_countTypes {l : Launch} {g : ab_G} (hl0 : l.stackTraces = false) {d2 : Nat} (hd : 3 ≤ d2 + 1)   (l0 : Nat) (l1 : Nat) (m0 : ab_Mm) (z : (Int32 × ab_Mm)) (h : dd_X6_countTypes  l0 l1 m0 = some z) : ab_W l g cX6_countTypes RX6 6 (some .int) [] false (d2 + 1) (.inl (some (.int z.1))) z.2 0 [(0, .ref l0), (1, .ref l1)] [] m0 := by
  unfold dd_X6_countTypes at h
  refine ru_iconst dX6_countTypes_0 kc_i_0 <| ru_istore_n (i := 2) dX6_countTypes_1 rfl (by decide) <| ru_iconst dX6_countTypes_2 kc_i_1 <| ru_istore_n (i := 3) dX6_countTypes_3 rfl (by decide) <| ru_iconst dX6_countTypes_4 kc_i_0 <| ru_istore dX6_countTypes_5 (by decide) <| ?_
  exact ru_pick [0, 1, 2, 3, 4] rfl (tbb_X6_countTypes_7 hl0 hd   _ _ _ _ _ _ _ _ h)
theorem tm_X6_countTypes {l : Launch} {g : ab_G} (hl0 : l.stackTraces = false) {d : Nat} (hd : 3 ≤ d) {l0 : Nat} {l1 : Nat} {m : ab_Mm} {z : (Int32 × ab_Mm)} (h : dd_X6_countTypes l0 l1 m = some z) : ab_Met l g yX6_countTypes cX6_countTypes 6 (some .int) [] d [.ref l0, .ref l1] m (.inl (some (.int z.1))) z.2 := by
  obtain ⟨d2, rfl⟩ : ∃ d2, d = d2 + 1 := ⟨d - 1, by omega⟩
  exact ab_of hl0 (by decide +kernel) (Nat.le_of_ble_eq_true rfl) (fun q => by cases q) rfl (te_X6_countTypes hl0 hd _ _ _ _ h)
theorem tbb_X6_addNeeds_154 {l : Launch} {g : ab_G} (hl0 : l.stackTraces = false) {d2 : Nat} (hd : 3 ≤ d2 + 1)    (m0 : ab_Mm) (z : (Unit × ab_Mm)) (h : bb_X6_addNeeds_154   m0 = some z) : ab_W l g cX6_addNeeds RX6 7 none [] false (d2 + 1) (.inl none) z.2 154 [] [] m0 := by
  unfold bb_X6_addNeeds_154 at h
  cases h
  exact ru_ret (v := none) ⟨rfl, dX6_addNeeds_154⟩
theorem tbb_X6_addNeeds_31 {l : Launch} {g : ab_G} (hl0 : l.stackTraces = false) {d2 : Nat} (hd : 3 ≤ d2 + 1) (r11 : Nat → Nat → Int32 → Int32 → ab_Mm → Option (Unit × ab_Mm)) (hr11 : ∀ (l0 : Nat) (l1 : Nat) (l2 : Int32) (l3 : Int32) (m : ab_Mm) (z : (Unit × ab_Mm)), r11 l0 l1 l2 l3 m = some z → ab_W l g cX6_addNeeds RX6 7 none [] false (d2 + 1) (.inl none) z.2 11 [(0, .ref l0), (1, .ref l1), (2, .int l2), (3, .int l3)] [] m) : ∀ (n : Nat) (l0 : Nat) (l1 : Nat) (l3 : Int32) (l4 : Int32) (l5 : Int32) (l6 : Int32) (m0 : ab_Mm) (z : (Unit × ab_Mm)), bb_X6_addNeeds_31 r11 n l0 l1 l3 l4 l5 l6 m0 = some z → ab_W l g cX6_addNeeds RX6 7 none [] false (d2 + 1) (.inl none) z.2 31 [(0, .ref l0), (1, .ref l1), (3, .int l3), (4, .int l4), (5, .int l5), (6, .int l6)] [] m0 := by
  intro n
  induction n with
  | zero => intro l0 l1 l3 l4 l5 l6 m0 z h; cases h
  | succ n ih =>
    intro l0 l1 l3 l4 l5 l6 m0 z h
    rw [bb_X6_addNeeds_31] at h
    refine ru_iload dX6_addNeeds_31 rfl <| ru_aload_n (i := 0) dX6_addNeeds_33 rfl rfl <| ?_
    refine ru_getR h dX6_addNeeds_34 lk_X6_33 ?_
    intro v1 h
    refine ru_getR h dX6_addNeeds_37 lk_X6_99 ?_
    intro v2 h
    refine ru_alen 0 h dX6_addNeeds_40 ?_
    intro v3 h
    refine ru_icmp_ge (tgt := 102) dX6_addNeeds_41 (by decide) (fun hc => ?_) (fun hc => ?_)
    · rw [if_pos hc] at h
      refine ru_aload_n (i := 0) dX6_addNeeds_102 rfl rfl <| ?_
      refine ru_getR h dX6_addNeeds_103 lk_X6_23 ?_
      intro v4 h
      refine ru_aload_n (i := 0) dX6_addNeeds_106 rfl rfl <| ?_
      refine ru_getR h dX6_addNeeds_107 lk_X6_33 ?_
      intro v5 h
      refine ru_getI h dX6_addNeeds_110 lk_X6_108 ?_
      intro v6 h
      refine ru_iconst dX6_addNeeds_113 kc_i_0 <| ru_iload dX6_addNeeds_114 rfl <| ?_
      obtain ⟨_, hrc, h⟩ := Option.bind_eq_some_iff.mp h
      obtain ⟨q7, hq7, h⟩ := Option.bind_eq_some_iff.mp h
      refine ru_callV (tm_X10_set hl0 (by omega) hq7) dX6_addNeeds_116 rfl pm_X6_111 mf_X10_set (ab_rcv_of hrc rfl) rfl rfl (Nat.le_of_ble_eq_true rfl) ?_
      refine ru_aload_n (i := 0) dX6_addNeeds_119 rfl rfl <| ?_
      refine ru_getR h dX6_addNeeds_120 lk_X6_23 ?_
      intro v8 h
      refine ru_aload_n (i := 0) dX6_addNeeds_123 rfl rfl <| ?_
      refine ru_getR h dX6_addNeeds_124 lk_X6_33 ?_
      intro v9 h
      refine ru_getI h dX6_addNeeds_127 lk_X6_108 ?_
      intro v10 h
      refine ru_iconst dX6_addNeeds_130 kc_i_1 <| ru_iload dX6_addNeeds_131 rfl <| ?_
      obtain ⟨_, hrc, h⟩ := Option.bind_eq_some_iff.mp h
      obtain ⟨q11, hq11, h⟩ := Option.bind_eq_some_iff.mp h
      refine ru_callV (tm_X10_set hl0 (by omega) hq11) dX6_addNeeds_133 rfl pm_X6_111 mf_X10_set (ab_rcv_of hrc rfl) rfl rfl (Nat.le_of_ble_eq_true rfl) ?_
      refine ru_aload_n (i := 0) dX6_addNeeds_136 rfl rfl <| ?_
      refine ru_getR h dX6_addNeeds_137 lk_X6_33 ?_
      intro v12 h
      refine ru_aload_n (i := 0) dX6_addNeeds_140 rfl rfl <| ?_
      refine ru_getR h dX6_addNeeds_141 lk_X6_27 ?_
      intro v13 h
      obtain ⟨_, hrc, h⟩ := Option.bind_eq_some_iff.mp h
      obtain ⟨q14, hq14, h⟩ := Option.bind_eq_some_iff.mp h
      refine ru_callV (tm_X5_step hl0 (by omega) hq14) dX6_addNeeds_144 rfl pm_X6_88 mf_X5_step (ab_rcv_of hrc rfl) rfl rfl (Nat.le_of_ble_eq_true rfl) ?_
      refine ru_istore_n (i := 2) dX6_addNeeds_147 rfl (by decide) <| ru_iinc dX6_addNeeds_148 (by decide) rfl (ab_inc kc_i_1) <| ru_goto (tgt := 11) dX6_addNeeds_151 (by decide) <| ?_
      exact ru_pick [0, 1, 2, 3] rfl (hr11 _ _ _ _ _ _ h)
    · rw [if_neg hc] at h
      refine ru_iload dX6_addNeeds_44 rfl <| ru_aload_n (i := 0) dX6_addNeeds_46 rfl rfl <| ?_
      refine ru_getR h dX6_addNeeds_47 lk_X6_33 ?_
      intro v15 h
      refine ru_getR h dX6_addNeeds_50 lk_X6_99 ?_
      intro v16 h
      refine ru_iload dX6_addNeeds_53 rfl <| ?_
      refine ru_iaload h dX6_addNeeds_55 ?_
      intro v17 h
      refine ru_aload_n (i := 1) dX6_addNeeds_56 rfl rfl <| ?_
      refine ru_getR h dX6_addNeeds_57 lk_X6_102 ?_
      intro v18 h
      refine ru_iload dX6_addNeeds_60 rfl <| ru_iconst dX6_addNeeds_62 kc_i_0 <| ?_
      obtain ⟨_, hrc, h⟩ := Option.bind_eq_some_iff.mp h
      obtain ⟨q19, hq19, h⟩ := Option.bind_eq_some_iff.mp h
      refine ru_callV (tm_X10_get hl0 (by omega) hq19) dX6_addNeeds_63 rfl pm_X6_105 mf_X10_get (ab_rcv_of hrc rfl) rfl rfl (Nat.le_of_ble_eq_true rfl) ?_
      refine ru_imul dX6_addNeeds_66 <| ru_iadd dX6_addNeeds_67 <| ru_istore dX6_addNeeds_68 (by decide) <| ru_iload dX6_addNeeds_70 rfl <| ru_aload_n (i := 0) dX6_addNeeds_72 rfl rfl <| ?_
      refine ru_getR h dX6_addNeeds_73 lk_X6_33 ?_
      intro v20 h
      refine ru_getR h dX6_addNeeds_76 lk_X6_99 ?_
      intro v21 h
      refine ru_iload dX6_addNeeds_79 rfl <| ?_
      refine ru_iaload h dX6_addNeeds_81 ?_
      intro v22 h
      refine ru_aload_n (i := 1) dX6_addNeeds_82 rfl rfl <| ?_
      refine ru_getR h dX6_addNeeds_83 lk_X6_102 ?_
      intro v23 h
      refine ru_iload dX6_addNeeds_86 rfl <| ru_iconst dX6_addNeeds_88 kc_i_1 <| ?_
      obtain ⟨_, hrc, h⟩ := Option.bind_eq_some_iff.mp h
      obtain ⟨q24, hq24, h⟩ := Option.bind_eq_some_iff.mp h
      refine ru_callV (tm_X10_get hl0 (by omega) hq24) dX6_addNeeds_89 rfl pm_X6_105 mf_X10_get (ab_rcv_of hrc rfl) rfl rfl (Nat.le_of_ble_eq_true rfl) ?_
      refine ru_imul dX6_addNeeds_92 <| ru_iadd dX6_addNeeds_93 <| ru_istore dX6_addNeeds_94 (by decide) <| ru_iinc dX6_addNeeds_96 (by decide) rfl (ab_inc kc_i_1) <| ru_goto (tgt := 31) dX6_addNeeds_99 (by decide) <| ?_
      exact ru_pick [0, 1, 3, 4, 5, 6] rfl (ih _ _ _ _ _ _ _ _ h)
theorem tbb_X6_addNeeds_11 {l : Launch} {g : ab_G} (hl0 : l.stackTraces = false) {d2 : Nat} (hd : 3 ≤ d2 + 1)   : ∀ (n : Nat) (l0 : Nat) (l1 : Nat) (l2 : Int32) (l3 : Int32) (m0 : ab_Mm) (z : (Unit × ab_Mm)), bb_X6_addNeeds_11  n l0 l1 l2 l3 m0 = some z → ab_W l g cX6_addNeeds RX6 7 none [] false (d2 + 1) (.inl none) z.2 11 [(0, .ref l0), (1, .ref l1), (2, .int l2), (3, .int l3)] [] m0 := by
  intro n
  induction n with
  | zero => intro l0 l1 l2 l3 m0 z h; cases h
  | succ n ih =>
    intro l0 l1 l2 l3 m0 z h
    rw [bb_X6_addNeeds_11] at h
    refine ru_iload_n (i := 3) dX6_addNeeds_11 rfl rfl <| ru_sipush dX6_addNeeds_12 kc_s_729 <| ?_
    refine ru_icmp_ge (tgt := 154) dX6_addNeeds_15 (by decide) (fun hc => ?_) (fun hc => ?_)
    · rw [if_pos hc] at h
      exact ru_pick [] rfl (tbb_X6_addNeeds_154 hl0 hd    _ _ h)
    · rw [if_neg hc] at h
      refine ru_iload_n (i := 2) dX6_addNeeds_18 rfl rfl <| ?_
      refine ru_if_eq (tgt := 154) dX6_addNeeds_19 (by decide) (fun hc => ?_) (fun hc => ?_)
      · rw [if_pos hc] at h
        exact ru_pick [] rfl (tbb_X6_addNeeds_154 hl0 hd    _ _ h)
      · rw [if_neg hc] at h
        refine ru_iconst dX6_addNeeds_22 kc_i_0 <| ru_istore dX6_addNeeds_23 (by decide) <| ru_iconst dX6_addNeeds_25 kc_i_0 <| ru_istore dX6_addNeeds_26 (by decide) <| ru_iconst dX6_addNeeds_28 kc_i_0 <| ru_istore dX6_addNeeds_29 (by decide) <| ?_
        exact ru_pick [0, 1, 3, 4, 5, 6] rfl (tbb_X6_addNeeds_31 hl0 hd _ ih _ _ _ _ _ _ _ _ _ h)
theorem te_X6_addNeeds {l : Launch} {g : ab_G} (hl0 : l.stackTraces = false) {d2 : Nat} (hd : 3 ≤ d2 + 1)   (l0 : Nat) (l1 : Nat) (m0 : ab_Mm) (z : (Unit × ab_Mm)) (h : dd_X6_addNeeds  l0 l1 m0 = some z) : ab_W l g cX6_addNeeds RX6 7 none [] false (d2 + 1) (.inl none) z.2 0 [(0, .ref l0), (1, .ref l1)] [] m0 := by
  unfold dd_X6_addNeeds at h
  refine ru_aload_n (i := 0) dX6_addNeeds_0 rfl rfl <| ?_
  refine ru_getR h dX6_addNeeds_1 lk_X6_33 ?_
  intro v1 h
  obtain ⟨_, hrc, h⟩ := Option.bind_eq_some_iff.mp h
  obtain ⟨q2, hq2, h⟩ := Option.bind_eq_some_iff.mp h
  refine ru_callV (tm_X5_restart hl0 (by omega) hq2) dX6_addNeeds_4 rfl pm_X6_81 mf_X5_restart (ab_rcv_of hrc rfl) rfl rfl (Nat.le_of_ble_eq_true rfl) ?_
  refine ru_iconst dX6_addNeeds_7 kc_i_1 <| ru_istore_n (i := 2) dX6_addNeeds_8 rfl (by decide) <| ru_iconst dX6_addNeeds_9 kc_i_0 <| ru_istore_n (i := 3) dX6_addNeeds_10 rfl (by decide) <| ?_
  exact ru_pick [0, 1, 2, 3] rfl (tbb_X6_addNeeds_11 hl0 hd   _ _ _ _ _ _ _ h)
theorem tm_X6_addNeeds {l : Launch} {g : ab_G} (hl0 : l.stackTraces = false) {d : Nat} (hd : 3 ≤ d) {l0 : Nat} {l1 : Nat} {m : ab_Mm} {z : (Unit × ab_Mm)} (h : dd_X6_addNeeds l0 l1 m = some z) : ab_Met l g yX6_addNeeds cX6_addNeeds 7 none [] d [.ref l0, .ref l1] m (.inl none) z.2 := by
  obtain ⟨d2, rfl⟩ : ∃ d2, d = d2 + 1 := ⟨d - 1, by omega⟩
  exact ab_of hl0 (by decide +kernel) (Nat.le_of_ble_eq_true rfl) (fun q => by cases q) rfl (te_X6_addNeeds hl0 hd _ _ _ _ h)
theorem tbb_X6_addHost_298 {l : Launch} {g : ab_G} (hl0 : l.stackTraces = false) {d2 : Nat} (hd : 3 ≤ d2 + 1)    (m0 : ab_Mm) (z : (Unit × ab_Mm)) (h : bb_X6_addHost_298   m0 = some z) : ab_W l g cX6_addHost RX6 11 none [] false (d2 + 1) (.inl none) z.2 298 [] [] m0 := by
  unfold bb_X6_addHost_298 at h
  cases h
  exact ru_ret (v := none) ⟨rfl, dX6_addHost_298⟩
theorem tbb_X6_addHost_292 {l : Launch} {g : ab_G} (hl0 : l.stackTraces = false) {d2 : Nat} (hd : 3 ≤ d2 + 1) (r172 : Nat → Int32 → Int32 → Int32 → Int32 → Int32 → ab_Mm → Option (Unit × ab_Mm)) (hr172 : ∀ (l0 : Nat) (l4 : Int32) (l5 : Int32) (l6 : Int32) (l7 : Int32) (l8 : Int32) (m : ab_Mm) (z : (Unit × ab_Mm)), r172 l0 l4 l5 l6 l7 l8 m = some z → ab_W l g cX6_addHost RX6 11 none [] false (d2 + 1) (.inl none) z.2 172 [(0, .ref l0), (4, .int l4), (5, .int l5), (6, .int l6), (7, .int l7), (8, .int l8)] [] m) (l0 : Nat) (l4 : Int32) (l5 : Int32) (l6 : Int32) (l7 : Int32) (l8 : Int32) (m0 : ab_Mm) (z : (Unit × ab_Mm)) (h : bb_X6_addHost_292 r172 l0 l4 l5 l6 l7 l8 m0 = some z) : ab_W l g cX6_addHost RX6 11 none [] false (d2 + 1) (.inl none) z.2 292 [(0, .ref l0), (4, .int l4), (5, .int l5), (6, .int l6), (7, .int l7), (8, .int l8)] [] m0 := by
  unfold bb_X6_addHost_292 at h
  refine ru_iinc dX6_addHost_292 (by decide) rfl (ab_inc kc_i_1) <| ru_goto (tgt := 172) dX6_addHost_295 (by decide) <| ?_
  exact ru_pick [0, 4, 5, 6, 7, 8] rfl (hr172 _ _ _ _ _ _ _ _ h)
theorem tbb_X6_addHost_251 {l : Launch} {g : ab_G} (hl0 : l.stackTraces = false) {d2 : Nat} (hd : 3 ≤ d2 + 1) (r172 : Nat → Int32 → Int32 → Int32 → Int32 → Int32 → ab_Mm → Option (Unit × ab_Mm)) (hr172 : ∀ (l0 : Nat) (l4 : Int32) (l5 : Int32) (l6 : Int32) (l7 : Int32) (l8 : Int32) (m : ab_Mm) (z : (Unit × ab_Mm)), r172 l0 l4 l5 l6 l7 l8 m = some z → ab_W l g cX6_addHost RX6 11 none [] false (d2 + 1) (.inl none) z.2 172 [(0, .ref l0), (4, .int l4), (5, .int l5), (6, .int l6), (7, .int l7), (8, .int l8)] [] m) (l0 : Nat) (l4 : Int32) (l5 : Int32) (l6 : Int32) (l7 : Int32) (l8 : Int32) (l9 : Int32) (s0 : Int32) (m0 : ab_Mm) (z : (Unit × ab_Mm)) (h : bb_X6_addHost_251 r172 l0 l4 l5 l6 l7 l8 l9 s0 m0 = some z) : ab_W l g cX6_addHost RX6 11 none [] false (d2 + 1) (.inl none) z.2 251 [(0, .ref l0), (4, .int l4), (5, .int l5), (6, .int l6), (7, .int l7), (8, .int l8), (9, .int l9)] [.int s0] m0 := by
  unfold bb_X6_addHost_251 at h
  refine ru_istore dX6_addHost_251 (by decide) <| ru_iload dX6_addHost_253 rfl <| ?_
  refine ru_if_eq (tgt := 292) dX6_addHost_255 (by decide) (fun hc => ?_) (fun hc => ?_)
  · rw [if_pos hc] at h
    exact ru_pick [0, 4, 5, 6, 7, 8] rfl (tbb_X6_addHost_292 hl0 hd _ hr172 _ _ _ _ _ _ _ _ h)
  · rw [if_neg hc] at h
    refine ru_iload dX6_addHost_258 rfl <| ?_
    refine ru_if_lt (tgt := 292) dX6_addHost_260 (by decide) (fun hc => ?_) (fun hc => ?_)
    · rw [if_pos hc] at h
      exact ru_pick [0, 4, 5, 6, 7, 8] rfl (tbb_X6_addHost_292 hl0 hd _ hr172 _ _ _ _ _ _ _ _ h)
    · rw [if_neg hc] at h
      refine ru_iload dX6_addHost_263 rfl <| ru_aload_n (i := 0) dX6_addHost_265 rfl rfl <| ?_
      refine ru_getR h dX6_addHost_266 lk_X6_11 ?_
      intro v1 h
      refine ru_alen 0 h dX6_addHost_269 ?_
      intro v2 h
      refine ru_icmp_ge (tgt := 292) dX6_addHost_270 (by decide) (fun hc => ?_) (fun hc => ?_)
      · rw [if_pos hc] at h
        exact ru_pick [0, 4, 5, 6, 7, 8] rfl (tbb_X6_addHost_292 hl0 hd _ hr172 _ _ _ _ _ _ _ _ h)
      · rw [if_neg hc] at h
        refine ru_aload_n (i := 0) dX6_addHost_273 rfl rfl <| ?_
        refine ru_getR h dX6_addHost_274 lk_X6_11 ?_
        intro v3 h
        refine ru_iload dX6_addHost_277 rfl <| ru_aload_n (i := 0) dX6_addHost_279 rfl rfl <| ?_
        refine ru_getR h dX6_addHost_280 lk_X6_11 ?_
        intro v4 h
        refine ru_iload dX6_addHost_283 rfl <| ?_
        refine ru_iaload h dX6_addHost_285 ?_
        intro v5 h
        refine ru_iload dX6_addHost_286 rfl <| ru_mmin dX6_addHost_288 ⟨pm_X6_69, pq_min_s, pq_ini, pq_min_c⟩ (Nat.le_of_ble_eq_true rfl) <| ?_
        refine ru_iastore h dX6_addHost_291 ?_
        intro m6 h
        exact ru_pick [0, 4, 5, 6, 7, 8] rfl (tbb_X6_addHost_292 hl0 hd _ hr172 _ _ _ _ _ _ _ _ h)
theorem tbb_X6_addHost_250 {l : Launch} {g : ab_G} (hl0 : l.stackTraces = false) {d2 : Nat} (hd : 3 ≤ d2 + 1) (r172 : Nat → Int32 → Int32 → Int32 → Int32 → Int32 → ab_Mm → Option (Unit × ab_Mm)) (hr172 : ∀ (l0 : Nat) (l4 : Int32) (l5 : Int32) (l6 : Int32) (l7 : Int32) (l8 : Int32) (m : ab_Mm) (z : (Unit × ab_Mm)), r172 l0 l4 l5 l6 l7 l8 m = some z → ab_W l g cX6_addHost RX6 11 none [] false (d2 + 1) (.inl none) z.2 172 [(0, .ref l0), (4, .int l4), (5, .int l5), (6, .int l6), (7, .int l7), (8, .int l8)] [] m) (l0 : Nat) (l4 : Int32) (l5 : Int32) (l6 : Int32) (l7 : Int32) (l8 : Int32) (l9 : Int32) (m0 : ab_Mm) (z : (Unit × ab_Mm)) (h : bb_X6_addHost_250 r172 l0 l4 l5 l6 l7 l8 l9 m0 = some z) : ab_W l g cX6_addHost RX6 11 none [] false (d2 + 1) (.inl none) z.2 250 [(0, .ref l0), (4, .int l4), (5, .int l5), (6, .int l6), (7, .int l7), (8, .int l8), (9, .int l9)] [] m0 := by
  unfold bb_X6_addHost_250 at h
  refine ru_iconst dX6_addHost_250 kc_i_0 <| ?_
  exact ru_pick [0, 4, 5, 6, 7, 8, 9] rfl (tbb_X6_addHost_251 hl0 hd _ hr172 _ _ _ _ _ _ _ _ _ _ h)
theorem tbb_X6_addHost_172 {l : Launch} {g : ab_G} (hl0 : l.stackTraces = false) {d2 : Nat} (hd : 3 ≤ d2 + 1)   : ∀ (n : Nat) (l0 : Nat) (l4 : Int32) (l5 : Int32) (l6 : Int32) (l7 : Int32) (l8 : Int32) (m0 : ab_Mm) (z : (Unit × ab_Mm)), bb_X6_addHost_172  n l0 l4 l5 l6 l7 l8 m0 = some z → ab_W l g cX6_addHost RX6 11 none [] false (d2 + 1) (.inl none) z.2 172 [(0, .ref l0), (4, .int l4), (5, .int l5), (6, .int l6), (7, .int l7), (8, .int l8)] [] m0 := by
  intro n
  induction n with
  | zero => intro l0 l4 l5 l6 l7 l8 m0 z h; cases h
  | succ n ih =>
    intro l0 l4 l5 l6 l7 l8 m0 z h
    rw [bb_X6_addHost_172] at h
    refine ru_iload dX6_addHost_172 rfl <| ru_sipush dX6_addHost_174 kc_s_729 <| ?_
    refine ru_icmp_ge (tgt := 298) dX6_addHost_177 (by decide) (fun hc => ?_) (fun hc => ?_)
    · rw [if_pos hc] at h
      exact ru_pick [] rfl (tbb_X6_addHost_298 hl0 hd    _ _ h)
    · rw [if_neg hc] at h
      refine ru_aload_n (i := 0) dX6_addHost_180 rfl rfl <| ?_
      refine ru_getR h dX6_addHost_181 lk_X6_37 ?_
      intro v1 h
      refine ru_aload_n (i := 0) dX6_addHost_184 rfl rfl <| ?_
      refine ru_getR h dX6_addHost_185 lk_X6_27 ?_
      intro v2 h
      obtain ⟨_, hrc, h⟩ := Option.bind_eq_some_iff.mp h
      obtain ⟨q3, hq3, h⟩ := Option.bind_eq_some_iff.mp h
      refine ru_callV (tm_X5_step hl0 (by omega) hq3) dX6_addHost_188 rfl pm_X6_88 mf_X5_step (ab_rcv_of hrc rfl) rfl rfl (Nat.le_of_ble_eq_true rfl) ?_
      refine ru_if_eq (tgt := 298) dX6_addHost_191 (by decide) (fun hc => ?_) (fun hc => ?_)
      · rw [if_pos hc] at h
        exact ru_pick [] rfl (tbb_X6_addHost_298 hl0 hd    _ _ h)
      · rw [if_neg hc] at h
        refine ru_iload dX6_addHost_194 rfl <| ru_aload_n (i := 0) dX6_addHost_196 rfl rfl <| ?_
        refine ru_getR h dX6_addHost_197 lk_X6_37 ?_
        intro v4 h
        refine ru_getI h dX6_addHost_200 lk_X6_108 ?_
        intro v5 h
        refine ru_iadd dX6_addHost_203 <| ru_istore dX6_addHost_204 (by decide) <| ru_aload_n (i := 0) dX6_addHost_206 rfl rfl <| ?_
        refine ru_getR h dX6_addHost_207 lk_X6_23 ?_
        intro v6 h
        refine ru_aload_n (i := 0) dX6_addHost_210 rfl rfl <| ?_
        refine ru_getR h dX6_addHost_211 lk_X6_37 ?_
        intro v7 h
        refine ru_getI h dX6_addHost_214 lk_X6_108 ?_
        intro v8 h
        refine ru_iconst dX6_addHost_217 kc_i_0 <| ?_
        obtain ⟨_, hrc, h⟩ := Option.bind_eq_some_iff.mp h
        obtain ⟨q9, hq9, h⟩ := Option.bind_eq_some_iff.mp h
        refine ru_callV (tm_X10_get hl0 (by omega) hq9) dX6_addHost_218 rfl pm_X6_105 mf_X10_get (ab_rcv_of hrc rfl) rfl rfl (Nat.le_of_ble_eq_true rfl) ?_
        refine ru_iload dX6_addHost_221 rfl <| ?_
        refine ru_icmp_gt (tgt := 250) dX6_addHost_223 (by decide) (fun hc => ?_) (fun hc => ?_)
        · rw [if_pos hc] at h
          exact ru_pick [0, 4, 5, 6, 7, 8, 9] rfl (tbb_X6_addHost_250 hl0 hd _ ih _ _ _ _ _ _ _ _ _ h)
        · rw [if_neg hc] at h
          refine ru_aload_n (i := 0) dX6_addHost_226 rfl rfl <| ?_
          refine ru_getR h dX6_addHost_227 lk_X6_23 ?_
          intro v10 h
          refine ru_aload_n (i := 0) dX6_addHost_230 rfl rfl <| ?_
          refine ru_getR h dX6_addHost_231 lk_X6_37 ?_
          intro v11 h
          refine ru_getI h dX6_addHost_234 lk_X6_108 ?_
          intro v12 h
          refine ru_iconst dX6_addHost_237 kc_i_1 <| ?_
          obtain ⟨_, hrc, h⟩ := Option.bind_eq_some_iff.mp h
          obtain ⟨q13, hq13, h⟩ := Option.bind_eq_some_iff.mp h
          refine ru_callV (tm_X10_get hl0 (by omega) hq13) dX6_addHost_238 rfl pm_X6_105 mf_X10_get (ab_rcv_of hrc rfl) rfl rfl (Nat.le_of_ble_eq_true rfl) ?_
          refine ru_iload dX6_addHost_241 rfl <| ?_
          refine ru_icmp_gt (tgt := 250) dX6_addHost_243 (by decide) (fun hc => ?_) (fun hc => ?_)
          · rw [if_pos hc] at h
            exact ru_pick [0, 4, 5, 6, 7, 8, 9] rfl (tbb_X6_addHost_250 hl0 hd _ ih _ _ _ _ _ _ _ _ _ h)
          · rw [if_neg hc] at h
            refine ru_iconst dX6_addHost_246 kc_i_1 <| ru_goto (tgt := 251) dX6_addHost_247 (by decide) <| ?_
            exact ru_pick [0, 4, 5, 6, 7, 8, 9] rfl (tbb_X6_addHost_251 hl0 hd _ ih _ _ _ _ _ _ _ _ _ _ h)
theorem tbb_X6_addHost_140 {l : Launch} {g : ab_G} (hl0 : l.stackTraces = false) {d2 : Nat} (hd : 3 ≤ d2 + 1)   (l0 : Nat) (l1 : Nat) (l2 : Int32) (l4 : Int32) (l5 : Int32) (m0 : ab_Mm) (z : (Unit × ab_Mm)) (h : bb_X6_addHost_140  l0 l1 l2 l4 l5 m0 = some z) : ab_W l g cX6_addHost RX6 11 none [] false (d2 + 1) (.inl none) z.2 140 [(0, .ref l0), (1, .ref l1), (2, .int l2), (4, .int l4), (5, .int l5)] [] m0 := by
  unfold bb_X6_addHost_140 at h
  refine ru_aload_n (i := 1) dX6_addHost_140 rfl rfl <| ?_
  refine ru_getR h dX6_addHost_141 lk_X6_60 ?_
  intro v1 h
  refine ru_iload_n (i := 2) dX6_addHost_144 rfl rfl <| ru_iconst dX6_addHost_145 kc_i_0 <| ?_
  obtain ⟨_, hrc, h⟩ := Option.bind_eq_some_iff.mp h
  obtain ⟨q2, hq2, h⟩ := Option.bind_eq_some_iff.mp h
  refine ru_callV (tm_X10_get hl0 (by omega) hq2) dX6_addHost_146 rfl pm_X6_105 mf_X10_get (ab_rcv_of hrc rfl) rfl rfl (Nat.le_of_ble_eq_true rfl) ?_
  refine ru_istore dX6_addHost_149 (by decide) <| ru_aload_n (i := 1) dX6_addHost_151 rfl rfl <| ?_
  refine ru_getR h dX6_addHost_152 lk_X6_60 ?_
  intro v3 h
  refine ru_iload_n (i := 2) dX6_addHost_155 rfl rfl <| ru_iconst dX6_addHost_156 kc_i_1 <| ?_
  obtain ⟨_, hrc, h⟩ := Option.bind_eq_some_iff.mp h
  obtain ⟨q4, hq4, h⟩ := Option.bind_eq_some_iff.mp h
  refine ru_callV (tm_X10_get hl0 (by omega) hq4) dX6_addHost_157 rfl pm_X6_105 mf_X10_get (ab_rcv_of hrc rfl) rfl rfl (Nat.le_of_ble_eq_true rfl) ?_
  refine ru_istore dX6_addHost_160 (by decide) <| ru_aload_n (i := 0) dX6_addHost_162 rfl rfl <| ?_
  refine ru_getR h dX6_addHost_163 lk_X6_37 ?_
  intro v5 h
  obtain ⟨_, hrc, h⟩ := Option.bind_eq_some_iff.mp h
  obtain ⟨q6, hq6, h⟩ := Option.bind_eq_some_iff.mp h
  refine ru_callV (tm_X5_restart hl0 (by omega) hq6) dX6_addHost_166 rfl pm_X6_81 mf_X5_restart (ab_rcv_of hrc rfl) rfl rfl (Nat.le_of_ble_eq_true rfl) ?_
  refine ru_iconst dX6_addHost_169 kc_i_0 <| ru_istore dX6_addHost_170 (by decide) <| ?_
  exact ru_pick [0, 4, 5, 6, 7, 8] rfl (tbb_X6_addHost_172 hl0 hd   _ _ _ _ _ _ _ _ _ h)
theorem tbb_X6_addHost_64 {l : Launch} {g : ab_G} (hl0 : l.stackTraces = false) {d2 : Nat} (hd : 3 ≤ d2 + 1)   : ∀ (n : Nat) (l0 : Nat) (l1 : Nat) (l2 : Int32) (l4 : Int32) (l5 : Int32) (l6 : Int32) (m0 : ab_Mm) (z : (Unit × ab_Mm)), bb_X6_addHost_64  n l0 l1 l2 l4 l5 l6 m0 = some z → ab_W l g cX6_addHost RX6 11 none [] false (d2 + 1) (.inl none) z.2 64 [(0, .ref l0), (1, .ref l1), (2, .int l2), (4, .int l4), (5, .int l5), (6, .int l6)] [] m0 := by
  intro n
  induction n with
  | zero => intro l0 l1 l2 l4 l5 l6 m0 z h; cases h
  | succ n ih =>
    intro l0 l1 l2 l4 l5 l6 m0 z h
    rw [bb_X6_addHost_64] at h
    refine ru_iload dX6_addHost_64 rfl <| ru_aload_n (i := 0) dX6_addHost_66 rfl rfl <| ?_
    refine ru_getR h dX6_addHost_67 lk_X6_37 ?_
    intro v1 h
    refine ru_getR h dX6_addHost_70 lk_X6_92 ?_
    intro v2 h
    refine ru_alen 0 h dX6_addHost_73 ?_
    intro v3 h
    refine ru_icmp_ge (tgt := 140) dX6_addHost_74 (by decide) (fun hc => ?_) (fun hc => ?_)
    · rw [if_pos hc] at h
      exact ru_pick [0, 1, 2, 4, 5] rfl (tbb_X6_addHost_140 hl0 hd   _ _ _ _ _ _ _ h)
    · rw [if_neg hc] at h
      refine ru_iload dX6_addHost_77 rfl <| ru_aload_n (i := 0) dX6_addHost_79 rfl rfl <| ?_
      refine ru_getR h dX6_addHost_80 lk_X6_33 ?_
      intro v4 h
      refine ru_getR h dX6_addHost_83 lk_X6_92 ?_
      intro v5 h
      refine ru_alen 0 h dX6_addHost_86 ?_
      intro v6 h
      refine ru_icmp_ge (tgt := 140) dX6_addHost_87 (by decide) (fun hc => ?_) (fun hc => ?_)
      · rw [if_pos hc] at h
        exact ru_pick [0, 1, 2, 4, 5] rfl (tbb_X6_addHost_140 hl0 hd   _ _ _ _ _ _ _ h)
      · rw [if_neg hc] at h
        refine ru_iload dX6_addHost_90 rfl <| ru_aload_n (i := 0) dX6_addHost_92 rfl rfl <| ?_
        refine ru_getR h dX6_addHost_93 lk_X6_33 ?_
        intro v7 h
        refine ru_getR h dX6_addHost_96 lk_X6_99 ?_
        intro v8 h
        refine ru_alen 0 h dX6_addHost_99 ?_
        intro v9 h
        refine ru_icmp_ge (tgt := 140) dX6_addHost_100 (by decide) (fun hc => ?_) (fun hc => ?_)
        · rw [if_pos hc] at h
          exact ru_pick [0, 1, 2, 4, 5] rfl (tbb_X6_addHost_140 hl0 hd   _ _ _ _ _ _ _ h)
        · rw [if_neg hc] at h
          refine ru_aload_n (i := 0) dX6_addHost_103 rfl rfl <| ?_
          refine ru_getR h dX6_addHost_104 lk_X6_37 ?_
          intro v10 h
          refine ru_getR h dX6_addHost_107 lk_X6_92 ?_
          intro v11 h
          refine ru_iload dX6_addHost_110 rfl <| ru_aload_n (i := 0) dX6_addHost_112 rfl rfl <| ?_
          refine ru_getR h dX6_addHost_113 lk_X6_33 ?_
          intro v12 h
          refine ru_getR h dX6_addHost_116 lk_X6_92 ?_
          intro v13 h
          refine ru_iload dX6_addHost_119 rfl <| ?_
          refine ru_iaload h dX6_addHost_121 ?_
          intro v14 h
          refine ru_aload_n (i := 0) dX6_addHost_122 rfl rfl <| ?_
          refine ru_getR h dX6_addHost_123 lk_X6_33 ?_
          intro v15 h
          refine ru_getR h dX6_addHost_126 lk_X6_99 ?_
          intro v16 h
          refine ru_iload dX6_addHost_129 rfl <| ?_
          refine ru_iaload h dX6_addHost_131 ?_
          intro v17 h
          refine ru_isub dX6_addHost_132 <| ?_
          refine ru_iastore h dX6_addHost_133 ?_
          intro m18 h
          refine ru_iinc dX6_addHost_134 (by decide) rfl (ab_inc kc_i_1) <| ru_goto (tgt := 64) dX6_addHost_137 (by decide) <| ?_
          exact ru_pick [0, 1, 2, 4, 5, 6] rfl (ih _ _ _ _ _ _ _ _ h)
theorem tbb_X6_addHost_37 {l : Launch} {g : ab_G} (hl0 : l.stackTraces = false) {d2 : Nat} (hd : 3 ≤ d2 + 1)    (m0 : ab_Mm) (z : (Unit × ab_Mm)) (h : bb_X6_addHost_37   m0 = some z) : ab_W l g cX6_addHost RX6 11 none [] false (d2 + 1) (.inl none) z.2 37 [] [] m0 := by
  unfold bb_X6_addHost_37 at h
  cases h
  exact ru_ret (v := none) ⟨rfl, dX6_addHost_37⟩
theorem te_X6_addHost {l : Launch} {g : ab_G} (hl0 : l.stackTraces = false) {d2 : Nat} (hd : 3 ≤ d2 + 1)   (l0 : Nat) (l1 : Nat) (l2 : Int32) (l3 : Int32) (m0 : ab_Mm) (z : (Unit × ab_Mm)) (h : dd_X6_addHost  l0 l1 l2 l3 m0 = some z) : ab_W l g cX6_addHost RX6 11 none [] false (d2 + 1) (.inl none) z.2 0 [(0, .ref l0), (1, .ref l1), (2, .int l2), (3, .int l3)] [] m0 := by
  unfold dd_X6_addHost at h
  refine ru_aload_n (i := 0) dX6_addHost_0 rfl rfl <| ?_
  refine ru_getR h dX6_addHost_1 lk_X6_33 ?_
  intro v1 h
  refine ru_getI h dX6_addHost_4 lk_X6_108 ?_
  intro v2 h
  refine ru_istore dX6_addHost_7 (by decide) <| ru_iload dX6_addHost_9 rfl <| ?_
  refine ru_if_lt (tgt := 37) dX6_addHost_11 (by decide) (fun hc => ?_) (fun hc => ?_)
  · rw [if_pos hc] at h
    exact ru_pick [] rfl (tbb_X6_addHost_37 hl0 hd    _ _ h)
  · rw [if_neg hc] at h
    refine ru_iload dX6_addHost_14 rfl <| ru_aload_n (i := 0) dX6_addHost_16 rfl rfl <| ?_
    refine ru_getR h dX6_addHost_17 lk_X6_15 ?_
    intro v3 h
    refine ru_alen 0 h dX6_addHost_20 ?_
    intro v4 h
    refine ru_icmp_ge (tgt := 37) dX6_addHost_21 (by decide) (fun hc => ?_) (fun hc => ?_)
    · rw [if_pos hc] at h
      exact ru_pick [] rfl (tbb_X6_addHost_37 hl0 hd    _ _ h)
    · rw [if_neg hc] at h
      refine ru_iload_n (i := 3) dX6_addHost_24 rfl rfl <| ?_
      refine ru_if_lt (tgt := 37) dX6_addHost_25 (by decide) (fun hc => ?_) (fun hc => ?_)
      · rw [if_pos hc] at h
        exact ru_pick [] rfl (tbb_X6_addHost_37 hl0 hd    _ _ h)
      · rw [if_neg hc] at h
        refine ru_iload_n (i := 3) dX6_addHost_28 rfl rfl <| ru_aload_n (i := 0) dX6_addHost_29 rfl rfl <| ?_
        refine ru_getR h dX6_addHost_30 lk_X6_11 ?_
        intro v5 h
        refine ru_alen 0 h dX6_addHost_33 ?_
        intro v6 h
        refine ru_icmp_lt (tgt := 38) dX6_addHost_34 (by decide) (fun hc => ?_) (fun hc => ?_)
        · rw [if_pos hc] at h
          refine ru_aload_n (i := 0) dX6_addHost_38 rfl rfl <| ?_
          refine ru_getR h dX6_addHost_39 lk_X6_15 ?_
          intro v7 h
          refine ru_iload dX6_addHost_42 rfl <| ?_
          refine ru_iaload h dX6_addHost_44 ?_
          intro v8 h
          refine ru_iconst dX6_addHost_45 kc_i_1 <| ru_iadd dX6_addHost_46 <| ru_istore dX6_addHost_47 (by decide) <| ru_iload dX6_addHost_49 rfl <| ru_aload_n (i := 0) dX6_addHost_51 rfl rfl <| ?_
          refine ru_getR h dX6_addHost_52 lk_X6_11 ?_
          intro v9 h
          refine ru_iload_n (i := 3) dX6_addHost_55 rfl rfl <| ?_
          refine ru_iaload h dX6_addHost_56 ?_
          intro v10 h
          refine ru_icmp_lt (tgt := 61) dX6_addHost_57 (by decide) (fun hc => ?_) (fun hc => ?_)
          · rw [if_pos hc] at h
            refine ru_iconst dX6_addHost_61 kc_i_0 <| ru_istore dX6_addHost_62 (by decide) <| ?_
            exact ru_pick [0, 1, 2, 4, 5, 6] rfl (tbb_X6_addHost_64 hl0 hd   _ _ _ _ _ _ _ _ _ h)
          · rw [if_neg hc] at h
            cases h
            exact ru_ret (v := none) ⟨rfl, dX6_addHost_60⟩
        · rw [if_neg hc] at h
          exact ru_pick [] rfl (tbb_X6_addHost_37 hl0 hd    _ _ h)
theorem tm_X6_addHost {l : Launch} {g : ab_G} (hl0 : l.stackTraces = false) {d : Nat} (hd : 3 ≤ d) {l0 : Nat} {l1 : Nat} {l2 : Int32} {l3 : Int32} {m : ab_Mm} {z : (Unit × ab_Mm)} (h : dd_X6_addHost l0 l1 l2 l3 m = some z) : ab_Met l g yX6_addHost cX6_addHost 11 none [] d [.ref l0, .ref l1, .int l2, .int l3] m (.inl none) z.2 := by
  obtain ⟨d2, rfl⟩ : ∃ d2, d = d2 + 1 := ⟨d - 1, by omega⟩
  exact ab_of hl0 (by decide +kernel) (Nat.le_of_ble_eq_true rfl) (fun q => by cases q) rfl (te_X6_addHost hl0 hd _ _ _ _ _ _ h)
theorem tbb_X6_fewestFor_146 {l : Launch} {g : ab_G} (hl0 : l.stackTraces = false) {d2 : Nat} (hd : 4 ≤ d2 + 1) (r55 : Nat → Nat → Int32 → Int32 → ab_Mm → Option (Int32 × ab_Mm)) (hr55 : ∀ (l0 : Nat) (l1 : Nat) (l3 : Int32) (l4 : Int32) (m : ab_Mm) (z : (Int32 × ab_Mm)), r55 l0 l1 l3 l4 m = some z → ab_W l g cX6_fewestFor RX6 7 (some .int) [] false (d2 + 1) (.inl (some (.int z.1))) z.2 55 [(0, .ref l0), (1, .ref l1), (3, .int l3), (4, .int l4)] [] m) (l0 : Nat) (l1 : Nat) (l3 : Int32) (l4 : Int32) (m0 : ab_Mm) (z : (Int32 × ab_Mm)) (h : bb_X6_fewestFor_146 r55 l0 l1 l3 l4 m0 = some z) : ab_W l g cX6_fewestFor RX6 7 (some .int) [] false (d2 + 1) (.inl (some (.int z.1))) z.2 146 [(0, .ref l0), (1, .ref l1), (3, .int l3), (4, .int l4)] [] m0 := by
  unfold bb_X6_fewestFor_146 at h
  refine ru_iinc dX6_fewestFor_146 (by decide) rfl (ab_inc kc_i_1) <| ru_goto (tgt := 55) dX6_fewestFor_149 (by decide) <| ?_
  exact ru_pick [0, 1, 3, 4] rfl (hr55 _ _ _ _ _ _ h)
theorem tbb_X6_fewestFor_106 {l : Launch} {g : ab_G} (hl0 : l.stackTraces = false) {d2 : Nat} (hd : 4 ≤ d2 + 1) (r55 : Nat → Nat → Int32 → Int32 → ab_Mm → Option (Int32 × ab_Mm)) (hr55 : ∀ (l0 : Nat) (l1 : Nat) (l3 : Int32) (l4 : Int32) (m : ab_Mm) (z : (Int32 × ab_Mm)), r55 l0 l1 l3 l4 m = some z → ab_W l g cX6_fewestFor RX6 7 (some .int) [] false (d2 + 1) (.inl (some (.int z.1))) z.2 55 [(0, .ref l0), (1, .ref l1), (3, .int l3), (4, .int l4)] [] m) : ∀ (n : Nat) (l0 : Nat) (l1 : Nat) (l3 : Int32) (l4 : Int32) (l5 : Int32) (l6 : Int32) (m0 : ab_Mm) (z : (Int32 × ab_Mm)), bb_X6_fewestFor_106 r55 n l0 l1 l3 l4 l5 l6 m0 = some z → ab_W l g cX6_fewestFor RX6 7 (some .int) [] false (d2 + 1) (.inl (some (.int z.1))) z.2 106 [(0, .ref l0), (1, .ref l1), (3, .int l3), (4, .int l4), (5, .int l5), (6, .int l6)] [] m0 := by
  intro n
  induction n with
  | zero => intro l0 l1 l3 l4 l5 l6 m0 z h; cases h
  | succ n ih =>
    intro l0 l1 l3 l4 l5 l6 m0 z h
    rw [bb_X6_fewestFor_106] at h
    refine ru_iload dX6_fewestFor_106 rfl <| ru_sipush dX6_fewestFor_108 kc_s_729 <| ?_
    refine ru_icmp_ge (tgt := 146) dX6_fewestFor_111 (by decide) (fun hc => ?_) (fun hc => ?_)
    · rw [if_pos hc] at h
      exact ru_pick [0, 1, 3, 4] rfl (tbb_X6_fewestFor_146 hl0 hd _ hr55 _ _ _ _ _ _ h)
    · rw [if_neg hc] at h
      refine ru_iload dX6_fewestFor_114 rfl <| ?_
      refine ru_if_eq (tgt := 146) dX6_fewestFor_116 (by decide) (fun hc => ?_) (fun hc => ?_)
      · rw [if_pos hc] at h
        exact ru_pick [0, 1, 3, 4] rfl (tbb_X6_fewestFor_146 hl0 hd _ hr55 _ _ _ _ _ _ h)
      · rw [if_neg hc] at h
        refine ru_aload_n (i := 0) dX6_fewestFor_119 rfl rfl <| ru_aload_n (i := 1) dX6_fewestFor_120 rfl rfl <| ru_iload dX6_fewestFor_121 rfl <| ru_iload_n (i := 3) dX6_fewestFor_123 rfl rfl <| ?_
        obtain ⟨_, hrc, h⟩ := Option.bind_eq_some_iff.mp h
        obtain ⟨q1, hq1, h⟩ := Option.bind_eq_some_iff.mp h
        refine ru_callV (tm_X6_addHost hl0 (by omega) hq1) dX6_fewestFor_124 rfl pm_X6_84 mf_X6_addHost (ab_rcv_of hrc rfl) rfl rfl (Nat.le_of_ble_eq_true rfl) ?_
        refine ru_aload_n (i := 0) dX6_fewestFor_127 rfl rfl <| ?_
        refine ru_getR h dX6_fewestFor_128 lk_X6_33 ?_
        intro v2 h
        refine ru_aload_n (i := 0) dX6_fewestFor_131 rfl rfl <| ?_
        refine ru_getR h dX6_fewestFor_132 lk_X6_27 ?_
        intro v3 h
        obtain ⟨_, hrc, h⟩ := Option.bind_eq_some_iff.mp h
        obtain ⟨q4, hq4, h⟩ := Option.bind_eq_some_iff.mp h
        refine ru_callV (tm_X5_step hl0 (by omega) hq4) dX6_fewestFor_135 rfl pm_X6_88 mf_X5_step (ab_rcv_of hrc rfl) rfl rfl (Nat.le_of_ble_eq_true rfl) ?_
        refine ru_istore dX6_fewestFor_138 (by decide) <| ru_iinc dX6_fewestFor_140 (by decide) rfl (ab_inc kc_i_1) <| ru_goto (tgt := 106) dX6_fewestFor_143 (by decide) <| ?_
        exact ru_pick [0, 1, 3, 4, 5, 6] rfl (ih _ _ _ _ _ _ _ _ h)
theorem tbb_X6_fewestFor_55 {l : Launch} {g : ab_G} (hl0 : l.stackTraces = false) {d2 : Nat} (hd : 4 ≤ d2 + 1)   : ∀ (n : Nat) (l0 : Nat) (l1 : Nat) (l3 : Int32) (l4 : Int32) (m0 : ab_Mm) (z : (Int32 × ab_Mm)), bb_X6_fewestFor_55  n l0 l1 l3 l4 m0 = some z → ab_W l g cX6_fewestFor RX6 7 (some .int) [] false (d2 + 1) (.inl (some (.int z.1))) z.2 55 [(0, .ref l0), (1, .ref l1), (3, .int l3), (4, .int l4)] [] m0 := by
  intro n
  induction n with
  | zero => intro l0 l1 l3 l4 m0 z h; cases h
  | succ n ih =>
    intro l0 l1 l3 l4 m0 z h
    rw [bb_X6_fewestFor_55] at h
    refine ru_iload dX6_fewestFor_55 rfl <| ru_aload_n (i := 1) dX6_fewestFor_57 rfl rfl <| ?_
    refine ru_getR h dX6_fewestFor_58 lk_X6_60 ?_
    intro v1 h
    refine ru_getI h dX6_fewestFor_61 lk_X6_65 ?_
    intro v2 h
    refine ru_icmp_ge (tgt := 152) dX6_fewestFor_64 (by decide) (fun hc => ?_) (fun hc => ?_)
    · rw [if_pos hc] at h
      refine ru_aload_n (i := 0) dX6_fewestFor_152 rfl rfl <| ?_
      refine ru_getR h dX6_fewestFor_153 lk_X6_11 ?_
      intro v3 h
      refine ru_iload_n (i := 3) dX6_fewestFor_156 rfl rfl <| ?_
      refine ru_iaload h dX6_fewestFor_157 ?_
      intro v4 h
      cases h
      exact ru_ret (v := some (.int _)) ⟨_, rfl, rfl, dX6_fewestFor_158⟩
    · rw [if_neg hc] at h
      refine ru_aload_n (i := 0) dX6_fewestFor_67 rfl rfl <| ?_
      refine ru_getR h dX6_fewestFor_68 lk_X6_11 ?_
      intro v5 h
      refine ru_iconst dX6_fewestFor_71 kc_i_0 <| ru_aload_n (i := 0) dX6_fewestFor_72 rfl rfl <| ?_
      refine ru_getR h dX6_fewestFor_73 lk_X6_15 ?_
      intro v6 h
      refine ru_iconst dX6_fewestFor_76 kc_i_0 <| ru_aload_n (i := 0) dX6_fewestFor_77 rfl rfl <| ?_
      refine ru_getR h dX6_fewestFor_78 lk_X6_11 ?_
      intro v7 h
      refine ru_alen 0 h dX6_fewestFor_81 ?_
      intro v8 h
      refine ru_aload_n (i := 0) dX6_fewestFor_82 rfl rfl <| ?_
      refine ru_getR h dX6_fewestFor_83 lk_X6_15 ?_
      intro v9 h
      refine ru_alen 0 h dX6_fewestFor_86 ?_
      intro v10 h
      refine ru_mmin dX6_fewestFor_87 ⟨pm_X6_69, pq_min_s, pq_ini, pq_min_c⟩ (Nat.le_of_ble_eq_true rfl) <| ?_
      refine ru_copyI h dX6_fewestFor_90 ⟨pm_X6_75, pr_n, pr_s, pr_i⟩ (Nat.le_of_ble_eq_true rfl) ?_
      intro m11 h
      refine ru_aload_n (i := 0) dX6_fewestFor_93 rfl rfl <| ?_
      refine ru_getR h dX6_fewestFor_94 lk_X6_33 ?_
      intro v12 h
      obtain ⟨_, hrc, h⟩ := Option.bind_eq_some_iff.mp h
      obtain ⟨q13, hq13, h⟩ := Option.bind_eq_some_iff.mp h
      refine ru_callV (tm_X5_restart hl0 (by omega) hq13) dX6_fewestFor_97 rfl pm_X6_81 mf_X5_restart (ab_rcv_of hrc rfl) rfl rfl (Nat.le_of_ble_eq_true rfl) ?_
      refine ru_iconst dX6_fewestFor_100 kc_i_1 <| ru_istore dX6_fewestFor_101 (by decide) <| ru_iconst dX6_fewestFor_103 kc_i_0 <| ru_istore dX6_fewestFor_104 (by decide) <| ?_
      exact ru_pick [0, 1, 3, 4, 5, 6] rfl (tbb_X6_fewestFor_106 hl0 hd _ ih _ _ _ _ _ _ _ _ _ h)
theorem tbb_X6_fewestFor_19 {l : Launch} {g : ab_G} (hl0 : l.stackTraces = false) {d2 : Nat} (hd : 4 ≤ d2 + 1)    (m0 : ab_Mm) (z : (Int32 × ab_Mm)) (h : bb_X6_fewestFor_19   m0 = some z) : ab_W l g cX6_fewestFor RX6 7 (some .int) [] false (d2 + 1) (.inl (some (.int z.1))) z.2 19 [] [] m0 := by
  unfold bb_X6_fewestFor_19 at h
  refine ru_iconst dX6_fewestFor_19 kc_i_0 <| ?_
  cases h
  exact ru_ret (v := some (.int _)) ⟨_, rfl, rfl, dX6_fewestFor_20⟩
theorem te_X6_fewestFor {l : Launch} {g : ab_G} (hl0 : l.stackTraces = false) {d2 : Nat} (hd : 4 ≤ d2 + 1)   (l0 : Nat) (l1 : Nat) (l2 : Nat) (m0 : ab_Mm) (z : (Int32 × ab_Mm)) (h : dd_X6_fewestFor  l0 l1 l2 m0 = some z) : ab_W l g cX6_fewestFor RX6 7 (some .int) [] false (d2 + 1) (.inl (some (.int z.1))) z.2 0 [(0, .ref l0), (1, .ref l1), (2, .ref l2)] [] m0 := by
  unfold dd_X6_fewestFor at h
  refine ru_aload_n (i := 0) dX6_fewestFor_0 rfl rfl <| ru_aload_n (i := 2) dX6_fewestFor_1 rfl rfl <| ?_
  obtain ⟨_, hrc, h⟩ := Option.bind_eq_some_iff.mp h
  obtain ⟨q1, hq1, h⟩ := Option.bind_eq_some_iff.mp h
  refine ru_callV (tm_X6_countTypes hl0 (by omega) hq1) dX6_fewestFor_2 rfl pm_X6_40 mf_X6_countTypes (ab_rcv_of hrc rfl) rfl rfl (Nat.le_of_ble_eq_true rfl) ?_
  refine ru_istore_n (i := 3) dX6_fewestFor_5 rfl (by decide) <| ru_iload_n (i := 3) dX6_fewestFor_6 rfl rfl <| ?_
  refine ru_if_le (tgt := 19) dX6_fewestFor_7 (by decide) (fun hc => ?_) (fun hc => ?_)
  · rw [if_pos hc] at h
    exact ru_pick [] rfl (tbb_X6_fewestFor_19 hl0 hd    _ _ h)
  · rw [if_neg hc] at h
    refine ru_iload_n (i := 3) dX6_fewestFor_10 rfl rfl <| ru_aload_n (i := 0) dX6_fewestFor_11 rfl rfl <| ?_
    refine ru_getR h dX6_fewestFor_12 lk_X6_11 ?_
    intro v2 h
    refine ru_alen 0 h dX6_fewestFor_15 ?_
    intro v3 h
    refine ru_icmp_lt (tgt := 21) dX6_fewestFor_16 (by decide) (fun hc => ?_) (fun hc => ?_)
    · rw [if_pos hc] at h
      refine ru_aload_n (i := 0) dX6_fewestFor_21 rfl rfl <| ru_aload_n (i := 1) dX6_fewestFor_22 rfl rfl <| ?_
      obtain ⟨_, hrc, h⟩ := Option.bind_eq_some_iff.mp h
      obtain ⟨q4, hq4, h⟩ := Option.bind_eq_some_iff.mp h
      refine ru_callV (tm_X6_addNeeds hl0 (by omega) hq4) dX6_fewestFor_23 rfl pm_X6_44 mf_X6_addNeeds (ab_rcv_of hrc rfl) rfl rfl (Nat.le_of_ble_eq_true rfl) ?_
      refine ru_aload_n (i := 0) dX6_fewestFor_26 rfl rfl <| ?_
      refine ru_getR h dX6_fewestFor_27 lk_X6_11 ?_
      intro v5 h
      refine ru_bipush dX6_fewestFor_30 kc_b_99 <| ?_
      obtain ⟨q6, hq6, h⟩ := Option.bind_eq_some_iff.mp h
      refine ru_callS (tm_J7_fill_53178 hl0 (by omega) hq6) dX6_fewestFor_32 rfl pm_X6_48 mf_J7_fill_53178 rfl rfl (Nat.le_of_ble_eq_true rfl) ?_
      refine ru_aload_n (i := 0) dX6_fewestFor_35 rfl rfl <| ?_
      refine ru_getR h dX6_fewestFor_36 lk_X6_11 ?_
      intro v7 h
      refine ru_iconst dX6_fewestFor_39 kc_i_0 <| ru_iconst dX6_fewestFor_40 kc_i_0 <| ?_
      refine ru_iastore h dX6_fewestFor_41 ?_
      intro m8 h
      refine ru_aload_n (i := 0) dX6_fewestFor_42 rfl rfl <| ?_
      refine ru_getR h dX6_fewestFor_43 lk_X6_11 ?_
      intro v9 h
      refine ru_iload_n (i := 3) dX6_fewestFor_46 rfl rfl <| ru_aload_n (i := 2) dX6_fewestFor_47 rfl rfl <| ?_
      obtain ⟨_, hrc, h⟩ := Option.bind_eq_some_iff.mp h
      obtain ⟨q10, hq10, h⟩ := Option.bind_eq_some_iff.mp h
      refine ru_callV (tm_X8_hostsInUse hl0 (by omega) hq10) dX6_fewestFor_48 rfl pm_X6_54 mf_X8_hostsInUse (ab_rcv_of hrc rfl) rfl rfl (Nat.le_of_ble_eq_true rfl) ?_
      refine ru_iastore h dX6_fewestFor_51 ?_
      intro m11 h
      refine ru_iconst dX6_fewestFor_52 kc_i_0 <| ru_istore dX6_fewestFor_53 (by decide) <| ?_
      exact ru_pick [0, 1, 3, 4] rfl (tbb_X6_fewestFor_55 hl0 hd   _ _ _ _ _ _ _ h)
    · rw [if_neg hc] at h
      exact ru_pick [] rfl (tbb_X6_fewestFor_19 hl0 hd    _ _ h)
theorem tm_X6_fewestFor {l : Launch} {g : ab_G} (hl0 : l.stackTraces = false) {d : Nat} (hd : 4 ≤ d) {l0 : Nat} {l1 : Nat} {l2 : Nat} {m : ab_Mm} {z : (Int32 × ab_Mm)} (h : dd_X6_fewestFor l0 l1 l2 m = some z) : ab_Met l g yX6_fewestFor cX6_fewestFor 7 (some .int) [] d [.ref l0, .ref l1, .ref l2] m (.inl (some (.int z.1))) z.2 := by
  obtain ⟨d2, rfl⟩ : ∃ d2, d = d2 + 1 := ⟨d - 1, by omega⟩
  exact ab_of hl0 (by decide +kernel) (Nat.le_of_ble_eq_true rfl) (fun q => by cases q) rfl (te_X6_fewestFor hl0 hd _ _ _ _ _ h)
