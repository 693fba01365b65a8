/-! ===== the methods keep to these functions (by program) ===== -/
theorem tbb_X12_keeps_40 {l : Launch} {g : ab_G} (hl0 : l.stackTraces = false) {d2 : Nat} (hd : 2 ≤ d2 + 1)   (l0 : Nat) (m0 : ab_Mm) (z : (Unit × ab_Mm)) (h : bb_X12_keeps_40  l0 m0 = some z) : ab_W l g cX12_keeps RX12 1 none [] false (d2 + 1) (.inl none) z.2 40 [(0, .ref l0)] [] m0 := by
  unfold bb_X12_keeps_40 at h
  refine ru_aload_n (i := 0) dX12_keeps_40 rfl rfl <| ?_
  refine ru_getR h dX12_keeps_41 lk_X12_7 ?_
  intro v1 h
  refine ru_iconst dX12_keeps_44 kc_i_0 <| ru_aload_n (i := 0) dX12_keeps_45 rfl rfl <| ?_
  refine ru_getR h dX12_keeps_46 lk_X12_64 ?_
  intro v2 h
  refine ru_bipush dX12_keeps_49 kc_b_116 <| ru_aload_n (i := 0) dX12_keeps_51 rfl rfl <| ?_
  refine ru_getI h dX12_keeps_52 lk_X12_261 ?_
  intro v3 h
  refine ru_imul dX12_keeps_55 <| ru_bipush dX12_keeps_56 kc_b_116 <| ?_
  obtain ⟨q4, hq4, h⟩ := Option.bind_eq_some_iff.mp h
  refine ru_callS (tm_X12_copies hl0 (by omega) hq4) dX12_keeps_58 rfl pm_X12_371 mf_X12_copies rfl rfl (Nat.le_of_ble_eq_true rfl) ?_
  refine ru_aload_n (i := 0) dX12_keeps_61 rfl rfl <| ru_dup dX12_keeps_62 rfl <| ?_
  refine ru_getI h dX12_keeps_63 lk_X12_261 ?_
  intro v5 h
  refine ru_iconst dX12_keeps_66 kc_i_1 <| ru_iadd dX12_keeps_67 <| ?_
  refine ru_putI h dX12_keeps_68 lk_X12_261 ?_
  intro m6 h
  cases h
  exact ru_ret (v := none) ⟨rfl, dX12_keeps_71⟩
theorem te_X12_keeps {l : Launch} {g : ab_G} (hl0 : l.stackTraces = false) {d2 : Nat} (hd : 2 ≤ d2 + 1)   (l0 : Nat) (m0 : ab_Mm) (z : (Unit × ab_Mm)) (h : dd_X12_keeps  l0 m0 = some z) : ab_W l g cX12_keeps RX12 1 none [] false (d2 + 1) (.inl none) z.2 0 [(0, .ref l0)] [] m0 := by
  unfold dd_X12_keeps at h
  refine ru_aload_n (i := 0) dX12_keeps_0 rfl rfl <| ?_
  refine ru_getI h dX12_keeps_1 lk_X12_261 ?_
  intro v1 h
  refine ru_bipush dX12_keeps_4 kc_b_10 <| ?_
  refine ru_icmp_ne (tgt := 40) dX12_keeps_6 (by decide) (fun hc => ?_) (fun hc => ?_)
  · rw [if_neg hc] at h
    exact ru_pick [0] rfl (tbb_X12_keeps_40 hl0 hd   _ _ _ h)
  · rw [if_pos hc] at h
    refine ru_aload_n (i := 0) dX12_keeps_9 rfl rfl <| ru_dup dX12_keeps_10 rfl <| ?_
    refine ru_getI h dX12_keeps_11 lk_X12_261 ?_
    intro v2 h
    refine ru_iconst dX12_keeps_14 kc_i_1 <| ru_isub dX12_keeps_15 <| ?_
    refine ru_putI h dX12_keeps_16 lk_X12_261 ?_
    intro m3 h
    refine ru_aload_n (i := 0) dX12_keeps_19 rfl rfl <| ?_
    refine ru_getR h dX12_keeps_20 lk_X12_64 ?_
    intro v4 h
    refine ru_bipush dX12_keeps_23 kc_b_116 <| ru_aload_n (i := 0) dX12_keeps_25 rfl rfl <| ?_
    refine ru_getR h dX12_keeps_26 lk_X12_64 ?_
    intro v5 h
    refine ru_iconst dX12_keeps_29 kc_i_0 <| ru_bipush dX12_keeps_30 kc_b_116 <| ru_aload_n (i := 0) dX12_keeps_32 rfl rfl <| ?_
    refine ru_getI h dX12_keeps_33 lk_X12_261 ?_
    intro v6 h
    refine ru_imul dX12_keeps_36 <| ?_
    obtain ⟨q7, hq7, h⟩ := Option.bind_eq_some_iff.mp h
    refine ru_callS (tm_X12_copies hl0 (by omega) hq7) dX12_keeps_37 rfl pm_X12_371 mf_X12_copies rfl rfl (Nat.le_of_ble_eq_true rfl) ?_
    exact ru_pick [0] rfl (tbb_X12_keeps_40 hl0 hd   _ _ _ h)
theorem tm_X12_keeps {l : Launch} {g : ab_G} (hl0 : l.stackTraces = false) {d : Nat} (hd : 2 ≤ d) {l0 : Nat} {m : ab_Mm} {z : (Unit × ab_Mm)} (h : dd_X12_keeps l0 m = some z) : ab_Met l g yX12_keeps cX12_keeps 1 none [] d [.ref l0] m (.inl none) z.2 := by
  obtain ⟨d2, rfl⟩ : ∃ d2, d = d2 + 1 := ⟨d - 1, by omega⟩
  exact ab_of hl0 (by decide +kernel) (Nat.le_of_ble_eq_true rfl) (fun q => by cases q) rfl (te_X12_keeps hl0 hd _ _ _ h)
theorem tbb_X12_pass_69 {l : Launch} {g : ab_G} (hl0 : l.stackTraces = false) {d2 : Nat} (hd : 9 ≤ d2 + 1)   : ∀ (n : Nat) (l0 : Nat) (l1 : Int32) (l2 : Int32) (l3 : Int32) (m0 : ab_Mm) (z : (Int32 × ab_Mm)), bb_X12_pass_69  n l0 l1 l2 l3 m0 = some z → ab_W l g cX12_pass RX12 4 (some .int) [] false (d2 + 1) (.inl (some (.int z.1))) z.2 69 [(0, .ref l0), (1, .int l1), (2, .int l2), (3, .int l3)] [] m0 := by
  intro n
  induction n with
  | zero => intro l0 l1 l2 l3 m0 z h; cases h
  | succ n ih =>
    intro l0 l1 l2 l3 m0 z h
    rw [bb_X12_pass_69] at h
    refine ru_iload_n (i := 3) dX12_pass_69 rfl rfl <| ru_iload_n (i := 1) dX12_pass_70 rfl rfl <| ?_
    refine ru_icmp_ge (tgt := 94) dX12_pass_71 (by decide) (fun hc => ?_) (fun hc => ?_)
    · rw [if_pos hc] at h
      refine ru_iload_n (i := 2) dX12_pass_94 rfl rfl <| ?_
      cases h
      exact ru_ret (v := some (.int _)) ⟨_, rfl, rfl, dX12_pass_95⟩
    · rw [if_neg hc] at h
      refine ru_aload_n (i := 0) dX12_pass_74 rfl rfl <| ?_
      obtain ⟨_, hrc, h⟩ := Option.bind_eq_some_iff.mp h
      obtain ⟨q1, hq1, h⟩ := Option.bind_eq_some_iff.mp h
      refine ru_callV (tm_X12_hour hl0 (by omega) hq1) dX12_pass_75 rfl pm_X12_375 mf_X12_hour (ab_rcv_of hrc rfl) rfl rfl (Nat.le_of_ble_eq_true rfl) ?_
      refine ru_iload_n (i := 2) dX12_pass_78 rfl rfl <| ru_aload_n (i := 0) dX12_pass_79 rfl rfl <| ?_
      refine ru_getI h dX12_pass_80 lk_X12_356 ?_
      intro v2 h
      obtain ⟨q3, hq3, h⟩ := Option.bind_eq_some_iff.mp h
      refine ru_callS (tm_X12_bits hl0 (by omega) hq3) dX12_pass_83 rfl pm_X12_347 mf_X12_bits rfl rfl (Nat.le_of_ble_eq_true rfl) ?_
      refine ru_iadd dX12_pass_86 <| ru_istore_n (i := 2) dX12_pass_87 rfl (by decide) <| ru_iinc dX12_pass_88 (by decide) rfl (ab_inc kc_i_1) <| ru_goto (tgt := 69) dX12_pass_91 (by decide) <| ?_
      exact ru_pick [0, 1, 2, 3] rfl (ih _ _ _ _ _ _ h)
theorem tbb_X12_pass_59 {l : Launch} {g : ab_G} (hl0 : l.stackTraces = false) {d2 : Nat} (hd : 9 ≤ d2 + 1)    (m0 : ab_Mm) (z : (Int32 × ab_Mm)) (h : bb_X12_pass_59   m0 = some z) : ab_W l g cX12_pass RX12 4 (some .int) [] false (d2 + 1) (.inl (some (.int z.1))) z.2 59 [] [] m0 := by
  unfold bb_X12_pass_59 at h
  refine ru_iconst dX12_pass_59 kc_i_0 <| ?_
  cases h
  exact ru_ret (v := some (.int _)) ⟨_, rfl, rfl, dX12_pass_60⟩
theorem tbb_X12_pass_52 {l : Launch} {g : ab_G} (hl0 : l.stackTraces = false) {d2 : Nat} (hd : 9 ≤ d2 + 1)   (l0 : Nat) (l1 : Int32) (s0 : Nat) (s1 : Int32) (m0 : ab_Mm) (z : (Int32 × ab_Mm)) (h : bb_X12_pass_52  l0 l1 s0 s1 m0 = some z) : ab_W l g cX12_pass RX12 4 (some .int) [] false (d2 + 1) (.inl (some (.int z.1))) z.2 52 [(0, .ref l0), (1, .int l1)] [.int s1, .ref s0] m0 := by
  unfold bb_X12_pass_52 at h
  refine ru_iconst dX12_pass_52 kc_i_2 <| ?_
  obtain ⟨_, hrc, h⟩ := Option.bind_eq_some_iff.mp h
  obtain ⟨q1, hq1, h⟩ := Option.bind_eq_some_iff.mp h
  refine ru_callV (tm_X12_throwsIf hl0 (by omega) hq1) dX12_pass_53 rfl pm_X12_249 mf_X12_throwsIf (ab_rcv_of hrc rfl) rfl rfl (Nat.le_of_ble_eq_true rfl) ?_
  refine ru_if_eq (tgt := 61) dX12_pass_56 (by decide) (fun hc => ?_) (fun hc => ?_)
  · rw [if_pos hc] at h
    refine ru_aload_n (i := 0) dX12_pass_61 rfl rfl <| ?_
    obtain ⟨_, hrc, h⟩ := Option.bind_eq_some_iff.mp h
    obtain ⟨q2, hq2, h⟩ := Option.bind_eq_some_iff.mp h
    refine ru_callV (tm_X12_keeps hl0 (by omega) hq2) dX12_pass_62 rfl pm_X12_382 mf_X12_keeps (ab_rcv_of hrc rfl) rfl rfl (Nat.le_of_ble_eq_true rfl) ?_
    refine ru_iconst dX12_pass_65 kc_i_0 <| ru_istore_n (i := 2) dX12_pass_66 rfl (by decide) <| ru_iconst dX12_pass_67 kc_i_0 <| ru_istore_n (i := 3) dX12_pass_68 rfl (by decide) <| ?_
    exact ru_pick [0, 1, 2, 3] rfl (tbb_X12_pass_69 hl0 hd   _ _ _ _ _ _ _ h)
  · rw [if_neg hc] at h
    exact ru_pick [] rfl (tbb_X12_pass_59 hl0 hd    _ _ h)
theorem tbb_X12_pass_23 {l : Launch} {g : ab_G} (hl0 : l.stackTraces = false) {d2 : Nat} (hd : 9 ≤ d2 + 1)   (l0 : Nat) (l1 : Int32) (s0 : Nat) (s1 : Int32) (m0 : ab_Mm) (z : (Int32 × ab_Mm)) (h : bb_X12_pass_23  l0 l1 s0 s1 m0 = some z) : ab_W l g cX12_pass RX12 4 (some .int) [] false (d2 + 1) (.inl (some (.int z.1))) z.2 23 [(0, .ref l0), (1, .int l1)] [.int s1, .ref s0] m0 := by
  unfold bb_X12_pass_23 at h
  refine ru_iconst dX12_pass_23 kc_i_1 <| ?_
  obtain ⟨_, hrc, h⟩ := Option.bind_eq_some_iff.mp h
  obtain ⟨q1, hq1, h⟩ := Option.bind_eq_some_iff.mp h
  refine ru_callV (tm_X12_throwsIf hl0 (by omega) hq1) dX12_pass_24 rfl pm_X12_249 mf_X12_throwsIf (ab_rcv_of hrc rfl) rfl rfl (Nat.le_of_ble_eq_true rfl) ?_
  refine ru_if_ne (tgt := 59) dX12_pass_27 (by decide) (fun hc => ?_) (fun hc => ?_)
  · rw [if_neg hc] at h
    exact ru_pick [] rfl (tbb_X12_pass_59 hl0 hd    _ _ h)
  · rw [if_pos hc] at h
    refine ru_aload_n (i := 0) dX12_pass_30 rfl rfl <| ru_aload_n (i := 0) dX12_pass_31 rfl rfl <| ?_
    refine ru_getR h dX12_pass_32 lk_X12_7 ?_
    intro v2 h
    refine ru_iconst dX12_pass_35 kc_i_0 <| ?_
    refine ru_laload h dX12_pass_36 ?_
    intro v3 h
    refine ru_iload_n (i := 1) dX12_pass_37 rfl rfl <| ru_i2l dX12_pass_38 <| ru_ladd dX12_pass_39 <| ru_ldc2_w dX12_pass_40 pk_X12_380 <| ru_lcmp dX12_pass_43 <| ?_
    refine ru_if_le (tgt := 51) dX12_pass_44 (by decide) (fun hc => ?_) (fun hc => ?_)
    · rw [if_pos hc] at h
      refine ru_iconst dX12_pass_51 kc_i_0 <| ?_
      exact ru_pick [0, 1] rfl (tbb_X12_pass_52 hl0 hd   _ _ _ _ _ _ h)
    · rw [if_neg hc] at h
      refine ru_iconst dX12_pass_47 kc_i_1 <| ru_goto (tgt := 52) dX12_pass_48 (by decide) <| ?_
      exact ru_pick [0, 1] rfl (tbb_X12_pass_52 hl0 hd   _ _ _ _ _ _ h)
theorem te_X12_pass {l : Launch} {g : ab_G} (hl0 : l.stackTraces = false) {d2 : Nat} (hd : 9 ≤ d2 + 1)   (l0 : Nat) (l1 : Int32) (m0 : ab_Mm) (z : (Int32 × ab_Mm)) (h : dd_X12_pass  l0 l1 m0 = some z) : ab_W l g cX12_pass RX12 4 (some .int) [] false (d2 + 1) (.inl (some (.int z.1))) z.2 0 [(0, .ref l0), (1, .int l1)] [] m0 := by
  unfold dd_X12_pass at h
  refine ru_aload_n (i := 0) dX12_pass_0 rfl rfl <| ru_iconst dX12_pass_1 kc_i_0 <| ?_
  refine ru_putI h dX12_pass_2 lk_X12_83 ?_
  intro m1 h
  refine ru_aload_n (i := 0) dX12_pass_5 rfl rfl <| ru_iload_n (i := 1) dX12_pass_6 rfl rfl <| ru_i2l dX12_pass_7 <| ru_lconst dX12_pass_8 (v := 1) rfl <| ru_ldc2_w dX12_pass_9 pk_X12_378 <| ?_
  obtain ⟨q2, hq2, h⟩ := Option.bind_eq_some_iff.mp h
  refine ru_callS (tm_X12_within hl0 (by omega) hq2) dX12_pass_12 rfl pm_X12_124 mf_X12_within rfl rfl (Nat.le_of_ble_eq_true rfl) ?_
  refine ru_if_ne (tgt := 22) dX12_pass_15 (by decide) (fun hc => ?_) (fun hc => ?_)
  · rw [if_neg hc] at h
    refine ru_iconst dX12_pass_22 kc_i_0 <| ?_
    exact ru_pick [0, 1] rfl (tbb_X12_pass_23 hl0 hd   _ _ _ _ _ _ h)
  · rw [if_pos hc] at h
    refine ru_iconst dX12_pass_18 kc_i_1 <| ru_goto (tgt := 23) dX12_pass_19 (by decide) <| ?_
    exact ru_pick [0, 1] rfl (tbb_X12_pass_23 hl0 hd   _ _ _ _ _ _ h)
theorem tm_X12_pass {l : Launch} {g : ab_G} (hl0 : l.stackTraces = false) {d : Nat} (hd : 9 ≤ d) {l0 : Nat} {l1 : Int32} {m : ab_Mm} {z : (Int32 × ab_Mm)} (h : dd_X12_pass l0 l1 m = some z) : ab_Met l g yX12_pass cX12_pass 4 (some .int) [] d [.ref l0, .int l1] m (.inl (some (.int z.1))) z.2 := by
  obtain ⟨d2, rfl⟩ : ∃ d2, d = d2 + 1 := ⟨d - 1, by omega⟩
  exact ab_of hl0 (by decide +kernel) (Nat.le_of_ble_eq_true rfl) (fun q => by cases q) rfl (te_X12_pass hl0 hd _ _ _ _ h)
theorem tbb_X12_launch_58 {l : Launch} {g : ab_G} (hl0 : l.stackTraces = false) {d2 : Nat} (hd : 7 ≤ d2 + 1)    (m0 : ab_Mm) (z : (Int32 × ab_Mm)) (h : bb_X12_launch_58   m0 = some z) : ab_W l g cX12_launch RX12 3 (some .int) [] false (d2 + 1) (.inl (some (.int z.1))) z.2 58 [] [] m0 := by
  unfold bb_X12_launch_58 at h
  refine ru_iconst dX12_launch_58 kc_i_0 <| ?_
  cases h
  exact ru_ret (v := some (.int _)) ⟨_, rfl, rfl, dX12_launch_59⟩
theorem tbb_X12_launch_51 {l : Launch} {g : ab_G} (hl0 : l.stackTraces = false) {d2 : Nat} (hd : 7 ≤ d2 + 1)   (l0 : Nat) (l1 : Int32) (l2 : Int32) (s0 : Nat) (s1 : Int32) (m0 : ab_Mm) (z : (Int32 × ab_Mm)) (h : bb_X12_launch_51  l0 l1 l2 s0 s1 m0 = some z) : ab_W l g cX12_launch RX12 3 (some .int) [] false (d2 + 1) (.inl (some (.int z.1))) z.2 51 [(0, .ref l0), (1, .int l1), (2, .int l2)] [.int s1, .ref s0] m0 := by
  unfold bb_X12_launch_51 at h
  refine ru_iconst dX12_launch_51 kc_i_2 <| ?_
  obtain ⟨_, hrc, h⟩ := Option.bind_eq_some_iff.mp h
  obtain ⟨q1, hq1, h⟩ := Option.bind_eq_some_iff.mp h
  refine ru_callV (tm_X12_throwsIf hl0 (by omega) hq1) dX12_launch_52 rfl pm_X12_249 mf_X12_throwsIf (ab_rcv_of hrc rfl) rfl rfl (Nat.le_of_ble_eq_true rfl) ?_
  refine ru_if_eq (tgt := 60) dX12_launch_55 (by decide) (fun hc => ?_) (fun hc => ?_)
  · rw [if_pos hc] at h
    refine ru_aload_n (i := 0) dX12_launch_60 rfl rfl <| ?_
    obtain ⟨_, hrc, h⟩ := Option.bind_eq_some_iff.mp h
    obtain ⟨q2, hq2, h⟩ := Option.bind_eq_some_iff.mp h
    refine ru_callV (tm_X12_keeps hl0 (by omega) hq2) dX12_launch_61 rfl pm_X12_382 mf_X12_keeps (ab_rcv_of hrc rfl) rfl rfl (Nat.le_of_ble_eq_true rfl) ?_
    refine ru_aload_n (i := 0) dX12_launch_64 rfl rfl <| ru_iload_n (i := 1) dX12_launch_65 rfl rfl <| ru_iload_n (i := 2) dX12_launch_66 rfl rfl <| ru_aload_n (i := 0) dX12_launch_67 rfl rfl <| ru_iload_n (i := 2) dX12_launch_68 rfl rfl <| ?_
    obtain ⟨_, hrc, h⟩ := Option.bind_eq_some_iff.mp h
    obtain ⟨q3, hq3, h⟩ := Option.bind_eq_some_iff.mp h
    refine ru_callV (tm_X12_bestFor hl0 (by omega) hq3) dX12_launch_69 rfl pm_X12_298 mf_X12_bestFor (ab_rcv_of hrc rfl) rfl rfl (Nat.le_of_ble_eq_true rfl) ?_
    refine ru_iconst dX12_launch_72 kc_i_m1 <| ?_
    obtain ⟨_, hrc, h⟩ := Option.bind_eq_some_iff.mp h
    obtain ⟨q4, hq4, h⟩ := Option.bind_eq_some_iff.mp h
    refine ru_callV (tm_X12_beginsOne hl0 (by omega) hq4) dX12_launch_73 rfl pm_X12_362 mf_X12_beginsOne (ab_rcv_of hrc rfl) rfl rfl (Nat.le_of_ble_eq_true rfl) ?_
    cases h
    exact ru_ret (v := some (.int _)) ⟨_, rfl, rfl, dX12_launch_76⟩
  · rw [if_neg hc] at h
    exact ru_pick [] rfl (tbb_X12_launch_58 hl0 hd    _ _ h)
theorem tbb_X12_launch_46 {l : Launch} {g : ab_G} (hl0 : l.stackTraces = false) {d2 : Nat} (hd : 7 ≤ d2 + 1)   (l0 : Nat) (l1 : Int32) (l2 : Int32) (s0 : Nat) (m0 : ab_Mm) (z : (Int32 × ab_Mm)) (h : bb_X12_launch_46  l0 l1 l2 s0 m0 = some z) : ab_W l g cX12_launch RX12 3 (some .int) [] false (d2 + 1) (.inl (some (.int z.1))) z.2 46 [(0, .ref l0), (1, .int l1), (2, .int l2)] [.ref s0] m0 := by
  unfold bb_X12_launch_46 at h
  refine ru_iconst dX12_launch_46 kc_i_1 <| ru_goto (tgt := 51) dX12_launch_47 (by decide) <| ?_
  exact ru_pick [0, 1, 2] rfl (tbb_X12_launch_51 hl0 hd   _ _ _ _ _ _ _ h)
theorem te_X12_launch {l : Launch} {g : ab_G} (hl0 : l.stackTraces = false) {d2 : Nat} (hd : 7 ≤ d2 + 1)   (l0 : Nat) (l1 : Int32) (l2 : Int32) (m0 : ab_Mm) (z : (Int32 × ab_Mm)) (h : dd_X12_launch  l0 l1 l2 m0 = some z) : ab_W l g cX12_launch RX12 3 (some .int) [] false (d2 + 1) (.inl (some (.int z.1))) z.2 0 [(0, .ref l0), (1, .int l1), (2, .int l2)] [] m0 := by
  unfold dd_X12_launch at h
  refine ru_aload_n (i := 0) dX12_launch_0 rfl rfl <| ru_iload_n (i := 1) dX12_launch_1 rfl rfl <| ?_
  obtain ⟨_, hrc, h⟩ := Option.bind_eq_some_iff.mp h
  obtain ⟨q1, hq1, h⟩ := Option.bind_eq_some_iff.mp h
  refine ru_callV (tm_X12_noTenant hl0 (by omega) hq1) dX12_launch_2 rfl pm_X12_329 mf_X12_noTenant (ab_rcv_of hrc rfl) rfl rfl (Nat.le_of_ble_eq_true rfl) ?_
  refine ru_if_ne (tgt := 58) dX12_launch_5 (by decide) (fun hc => ?_) (fun hc => ?_)
  · rw [if_neg hc] at h
    exact ru_pick [] rfl (tbb_X12_launch_58 hl0 hd    _ _ h)
  · rw [if_pos hc] at h
    refine ru_aload_n (i := 0) dX12_launch_8 rfl rfl <| ru_iload_n (i := 2) dX12_launch_9 rfl rfl <| ?_
    obtain ⟨_, hrc, h⟩ := Option.bind_eq_some_iff.mp h
    obtain ⟨q2, hq2, h⟩ := Option.bind_eq_some_iff.mp h
    refine ru_callV (tm_X12_noType hl0 (by omega) hq2) dX12_launch_10 rfl pm_X12_295 mf_X12_noType (ab_rcv_of hrc rfl) rfl rfl (Nat.le_of_ble_eq_true rfl) ?_
    refine ru_if_ne (tgt := 58) dX12_launch_13 (by decide) (fun hc => ?_) (fun hc => ?_)
    · rw [if_neg hc] at h
      exact ru_pick [] rfl (tbb_X12_launch_58 hl0 hd    _ _ h)
    · rw [if_pos hc] at h
      refine ru_aload_n (i := 0) dX12_launch_16 rfl rfl <| ru_aload_n (i := 0) dX12_launch_17 rfl rfl <| ru_iload_n (i := 1) dX12_launch_18 rfl rfl <| ?_
      obtain ⟨_, hrc, h⟩ := Option.bind_eq_some_iff.mp h
      obtain ⟨q3, hq3, h⟩ := Option.bind_eq_some_iff.mp h
      refine ru_callV (tm_X12_isOver hl0 (by omega) hq3) dX12_launch_19 rfl pm_X12_337 mf_X12_isOver (ab_rcv_of hrc rfl) rfl rfl (Nat.le_of_ble_eq_true rfl) ?_
      refine ru_if_ne (tgt := 46) dX12_launch_22 (by decide) (fun hc => ?_) (fun hc => ?_)
      · rw [if_neg hc] at h
        exact ru_pick [0, 1, 2] rfl (tbb_X12_launch_46 hl0 hd   _ _ _ _ _ _ h)
      · rw [if_pos hc] at h
        refine ru_aload_n (i := 0) dX12_launch_25 rfl rfl <| ?_
        obtain ⟨_, hrc, h⟩ := Option.bind_eq_some_iff.mp h
        obtain ⟨q4, hq4, h⟩ := Option.bind_eq_some_iff.mp h
        refine ru_callV (tm_X12_runningOnes hl0 (by omega) hq4) dX12_launch_26 rfl pm_X12_301 mf_X12_runningOnes (ab_rcv_of hrc rfl) rfl rfl (Nat.le_of_ble_eq_true rfl) ?_
        obtain ⟨q5, hq5, h⟩ := Option.bind_eq_some_iff.mp h
        refine ru_callS (tm_X12_bits hl0 (by omega) hq5) dX12_launch_29 rfl pm_X12_347 mf_X12_bits rfl rfl (Nat.le_of_ble_eq_true rfl) ?_
        refine ru_bipush dX12_launch_32 kc_b_12 <| ?_
        refine ru_icmp_eq (tgt := 46) dX12_launch_34 (by decide) (fun hc => ?_) (fun hc => ?_)
        · rw [if_pos hc] at h
          exact ru_pick [0, 1, 2] rfl (tbb_X12_launch_46 hl0 hd   _ _ _ _ _ _ h)
        · rw [if_neg hc] at h
          refine ru_aload_n (i := 0) dX12_launch_37 rfl rfl <| ru_iload_n (i := 2) dX12_launch_38 rfl rfl <| ?_
          obtain ⟨_, hrc, h⟩ := Option.bind_eq_some_iff.mp h
          obtain ⟨q6, hq6, h⟩ := Option.bind_eq_some_iff.mp h
          refine ru_callV (tm_X12_bestFor hl0 (by omega) hq6) dX12_launch_39 rfl pm_X12_298 mf_X12_bestFor (ab_rcv_of hrc rfl) rfl rfl (Nat.le_of_ble_eq_true rfl) ?_
          refine ru_iconst dX12_launch_42 kc_i_m1 <| ?_
          refine ru_icmp_ne (tgt := 50) dX12_launch_43 (by decide) (fun hc => ?_) (fun hc => ?_)
          · rw [if_neg hc] at h
            refine ru_iconst dX12_launch_50 kc_i_0 <| ?_
            exact ru_pick [0, 1, 2] rfl (tbb_X12_launch_51 hl0 hd   _ _ _ _ _ _ _ h)
          · rw [if_pos hc] at h
            exact ru_pick [0, 1, 2] rfl (tbb_X12_launch_46 hl0 hd   _ _ _ _ _ _ h)
theorem tm_X12_launch {l : Launch} {g : ab_G} (hl0 : l.stackTraces = false) {d : Nat} (hd : 7 ≤ d) {l0 : Nat} {l1 : Int32} {l2 : Int32} {m : ab_Mm} {z : (Int32 × ab_Mm)} (h : dd_X12_launch l0 l1 l2 m = some z) : ab_Met l g yX12_launch cX12_launch 3 (some .int) [] d [.ref l0, .int l1, .int l2] m (.inl (some (.int z.1))) z.2 := by
  obtain ⟨d2, rfl⟩ : ∃ d2, d = d2 + 1 := ⟨d - 1, by omega⟩
  exact ab_of hl0 (by decide +kernel) (Nat.le_of_ble_eq_true rfl) (fun q => by cases q) rfl (te_X12_launch hl0 hd _ _ _ _ _ h)
theorem tbb_X12_bid_75 {l : Launch} {g : ab_G} (hl0 : l.stackTraces = false) {d2 : Nat} (hd : 4 ≤ d2 + 1)    (m0 : ab_Mm) (z : (Int32 × ab_Mm)) (h : bb_X12_bid_75   m0 = some z) : ab_W l g cX12_bid RX12 5 (some .int) [] false (d2 + 1) (.inl (some (.int z.1))) z.2 75 [] [] m0 := by
  unfold bb_X12_bid_75 at h
  refine ru_iconst dX12_bid_75 kc_i_0 <| ?_
  cases h
  exact ru_ret (v := some (.int _)) ⟨_, rfl, rfl, dX12_bid_76⟩
theorem tbb_X12_bid_68 {l : Launch} {g : ab_G} (hl0 : l.stackTraces = false) {d2 : Nat} (hd : 4 ≤ d2 + 1)   (l0 : Nat) (l1 : Int32) (l2 : Int32) (l3 : Int32) (s0 : Nat) (s1 : Int32) (m0 : ab_Mm) (z : (Int32 × ab_Mm)) (h : bb_X12_bid_68  l0 l1 l2 l3 s0 s1 m0 = some z) : ab_W l g cX12_bid RX12 5 (some .int) [] false (d2 + 1) (.inl (some (.int z.1))) z.2 68 [(0, .ref l0), (1, .int l1), (2, .int l2), (3, .int l3)] [.int s1, .ref s0] m0 := by
  unfold bb_X12_bid_68 at h
  refine ru_iconst dX12_bid_68 kc_i_3 <| ?_
  obtain ⟨_, hrc, h⟩ := Option.bind_eq_some_iff.mp h
  obtain ⟨q1, hq1, h⟩ := Option.bind_eq_some_iff.mp h
  refine ru_callV (tm_X12_throwsIf hl0 (by omega) hq1) dX12_bid_69 rfl pm_X12_249 mf_X12_throwsIf (ab_rcv_of hrc rfl) rfl rfl (Nat.le_of_ble_eq_true rfl) ?_
  refine ru_if_eq (tgt := 77) dX12_bid_72 (by decide) (fun hc => ?_) (fun hc => ?_)
  · rw [if_pos hc] at h
    refine ru_aload_n (i := 0) dX12_bid_77 rfl rfl <| ?_
    obtain ⟨_, hrc, h⟩ := Option.bind_eq_some_iff.mp h
    obtain ⟨q2, hq2, h⟩ := Option.bind_eq_some_iff.mp h
    refine ru_callV (tm_X12_keeps hl0 (by omega) hq2) dX12_bid_78 rfl pm_X12_382 mf_X12_keeps (ab_rcv_of hrc rfl) rfl rfl (Nat.le_of_ble_eq_true rfl) ?_
    refine ru_bipush dX12_bid_81 kc_b_86 <| ru_iconst dX12_bid_83 kc_i_3 <| ru_aload_n (i := 0) dX12_bid_84 rfl rfl <| ?_
    refine ru_getR h dX12_bid_85 lk_X12_7 ?_
    intro v3 h
    refine ru_iconst dX12_bid_88 kc_i_1 <| ?_
    refine ru_laload h dX12_bid_89 ?_
    intro v4 h
    refine ru_l2i dX12_bid_90 <| ru_imul dX12_bid_91 <| ru_iadd dX12_bid_92 <| ru_istore dX12_bid_93 (by decide) <| ru_aload_n (i := 0) dX12_bid_95 rfl rfl <| ?_
    refine ru_getR h dX12_bid_96 lk_X12_7 ?_
    intro v5 h
    refine ru_iload dX12_bid_99 rfl <| ru_iload_n (i := 1) dX12_bid_101 rfl rfl <| ru_i2l dX12_bid_102 <| ?_
    refine ru_lastore h dX12_bid_103 ?_
    intro m6 h
    refine ru_aload_n (i := 0) dX12_bid_104 rfl rfl <| ?_
    refine ru_getR h dX12_bid_105 lk_X12_7 ?_
    intro v7 h
    refine ru_iload dX12_bid_108 rfl <| ru_iconst dX12_bid_110 kc_i_1 <| ru_iadd dX12_bid_111 <| ru_iload_n (i := 2) dX12_bid_112 rfl rfl <| ru_i2l dX12_bid_113 <| ?_
    refine ru_lastore h dX12_bid_114 ?_
    intro m8 h
    refine ru_aload_n (i := 0) dX12_bid_115 rfl rfl <| ?_
    refine ru_getR h dX12_bid_116 lk_X12_7 ?_
    intro v9 h
    refine ru_iload dX12_bid_119 rfl <| ru_iconst dX12_bid_121 kc_i_2 <| ru_iadd dX12_bid_122 <| ru_iload_n (i := 3) dX12_bid_123 rfl rfl <| ru_i2l dX12_bid_124 <| ?_
    refine ru_lastore h dX12_bid_125 ?_
    intro m10 h
    refine ru_aload_n (i := 0) dX12_bid_126 rfl rfl <| ?_
    refine ru_getR h dX12_bid_127 lk_X12_7 ?_
    intro v11 h
    refine ru_iconst dX12_bid_130 kc_i_1 <| ru_dup2 dX12_bid_131 rfl rfl <| ?_
    refine ru_laload h dX12_bid_132 ?_
    intro v12 h
    refine ru_lconst dX12_bid_133 (v := 1) rfl <| ru_ladd dX12_bid_134 <| ?_
    refine ru_lastore h dX12_bid_135 ?_
    intro m13 h
    refine ru_aload_n (i := 0) dX12_bid_136 rfl rfl <| ?_
    refine ru_getR h dX12_bid_137 lk_X12_7 ?_
    intro v14 h
    refine ru_iconst dX12_bid_140 kc_i_1 <| ?_
    refine ru_laload h dX12_bid_141 ?_
    intro v15 h
    refine ru_l2i dX12_bid_142 <| ?_
    cases h
    exact ru_ret (v := some (.int _)) ⟨_, rfl, rfl, dX12_bid_143⟩
  · rw [if_neg hc] at h
    exact ru_pick [] rfl (tbb_X12_bid_75 hl0 hd    _ _ h)
theorem tbb_X12_bid_63 {l : Launch} {g : ab_G} (hl0 : l.stackTraces = false) {d2 : Nat} (hd : 4 ≤ d2 + 1)   (l0 : Nat) (l1 : Int32) (l2 : Int32) (l3 : Int32) (s0 : Nat) (m0 : ab_Mm) (z : (Int32 × ab_Mm)) (h : bb_X12_bid_63  l0 l1 l2 l3 s0 m0 = some z) : ab_W l g cX12_bid RX12 5 (some .int) [] false (d2 + 1) (.inl (some (.int z.1))) z.2 63 [(0, .ref l0), (1, .int l1), (2, .int l2), (3, .int l3)] [.ref s0] m0 := by
  unfold bb_X12_bid_63 at h
  refine ru_iconst dX12_bid_63 kc_i_1 <| ru_goto (tgt := 68) dX12_bid_64 (by decide) <| ?_
  exact ru_pick [0, 1, 2, 3] rfl (tbb_X12_bid_68 hl0 hd   _ _ _ _ _ _ _ _ h)
theorem tbb_X12_bid_34 {l : Launch} {g : ab_G} (hl0 : l.stackTraces = false) {d2 : Nat} (hd : 4 ≤ d2 + 1)   (l0 : Nat) (l1 : Int32) (l2 : Int32) (l3 : Int32) (s0 : Nat) (s1 : Int32) (m0 : ab_Mm) (z : (Int32 × ab_Mm)) (h : bb_X12_bid_34  l0 l1 l2 l3 s0 s1 m0 = some z) : ab_W l g cX12_bid RX12 5 (some .int) [] false (d2 + 1) (.inl (some (.int z.1))) z.2 34 [(0, .ref l0), (1, .int l1), (2, .int l2), (3, .int l3)] [.int s1, .ref s0] m0 := by
  unfold bb_X12_bid_34 at h
  refine ru_iconst dX12_bid_34 kc_i_2 <| ?_
  obtain ⟨_, hrc, h⟩ := Option.bind_eq_some_iff.mp h
  obtain ⟨q1, hq1, h⟩ := Option.bind_eq_some_iff.mp h
  refine ru_callV (tm_X12_throwsIf hl0 (by omega) hq1) dX12_bid_35 rfl pm_X12_249 mf_X12_throwsIf (ab_rcv_of hrc rfl) rfl rfl (Nat.le_of_ble_eq_true rfl) ?_
  refine ru_if_ne (tgt := 75) dX12_bid_38 (by decide) (fun hc => ?_) (fun hc => ?_)
  · rw [if_neg hc] at h
    exact ru_pick [] rfl (tbb_X12_bid_75 hl0 hd    _ _ h)
  · rw [if_pos hc] at h
    refine ru_aload_n (i := 0) dX12_bid_41 rfl rfl <| ru_aload_n (i := 0) dX12_bid_42 rfl rfl <| ru_iload_n (i := 1) dX12_bid_43 rfl rfl <| ?_
    obtain ⟨_, hrc, h⟩ := Option.bind_eq_some_iff.mp h
    obtain ⟨q2, hq2, h⟩ := Option.bind_eq_some_iff.mp h
    refine ru_callV (tm_X12_isOver hl0 (by omega) hq2) dX12_bid_44 rfl pm_X12_337 mf_X12_isOver (ab_rcv_of hrc rfl) rfl rfl (Nat.le_of_ble_eq_true rfl) ?_
    refine ru_if_ne (tgt := 63) dX12_bid_47 (by decide) (fun hc => ?_) (fun hc => ?_)
    · rw [if_neg hc] at h
      exact ru_pick [0, 1, 2, 3] rfl (tbb_X12_bid_63 hl0 hd   _ _ _ _ _ _ _ h)
    · rw [if_pos hc] at h
      refine ru_aload_n (i := 0) dX12_bid_50 rfl rfl <| ?_
      refine ru_getR h dX12_bid_51 lk_X12_7 ?_
      intro v3 h
      refine ru_iconst dX12_bid_54 kc_i_1 <| ?_
      refine ru_laload h dX12_bid_55 ?_
      intro v4 h
      refine ru_ldc2_w dX12_bid_56 pk_X12_385 <| ru_lcmp dX12_bid_59 <| ?_
      refine ru_if_ne (tgt := 67) dX12_bid_60 (by decide) (fun hc => ?_) (fun hc => ?_)
      · rw [if_neg hc] at h
        refine ru_iconst dX12_bid_67 kc_i_0 <| ?_
        exact ru_pick [0, 1, 2, 3] rfl (tbb_X12_bid_68 hl0 hd   _ _ _ _ _ _ _ _ h)
      · rw [if_pos hc] at h
        exact ru_pick [0, 1, 2, 3] rfl (tbb_X12_bid_63 hl0 hd   _ _ _ _ _ _ _ h)
theorem te_X12_bid {l : Launch} {g : ab_G} (hl0 : l.stackTraces = false) {d2 : Nat} (hd : 4 ≤ d2 + 1)   (l0 : Nat) (l1 : Int32) (l2 : Int32) (l3 : Int32) (m0 : ab_Mm) (z : (Int32 × ab_Mm)) (h : dd_X12_bid  l0 l1 l2 l3 m0 = some z) : ab_W l g cX12_bid RX12 5 (some .int) [] false (d2 + 1) (.inl (some (.int z.1))) z.2 0 [(0, .ref l0), (1, .int l1), (2, .int l2), (3, .int l3)] [] m0 := by
  unfold dd_X12_bid at h
  refine ru_aload_n (i := 0) dX12_bid_0 rfl rfl <| ru_iload_n (i := 1) dX12_bid_1 rfl rfl <| ?_
  obtain ⟨_, hrc, h⟩ := Option.bind_eq_some_iff.mp h
  obtain ⟨q1, hq1, h⟩ := Option.bind_eq_some_iff.mp h
  refine ru_callV (tm_X12_noTenant hl0 (by omega) hq1) dX12_bid_2 rfl pm_X12_329 mf_X12_noTenant (ab_rcv_of hrc rfl) rfl rfl (Nat.le_of_ble_eq_true rfl) ?_
  refine ru_if_ne (tgt := 75) dX12_bid_5 (by decide) (fun hc => ?_) (fun hc => ?_)
  · rw [if_neg hc] at h
    exact ru_pick [] rfl (tbb_X12_bid_75 hl0 hd    _ _ h)
  · rw [if_pos hc] at h
    refine ru_aload_n (i := 0) dX12_bid_8 rfl rfl <| ru_iload_n (i := 2) dX12_bid_9 rfl rfl <| ?_
    obtain ⟨_, hrc, h⟩ := Option.bind_eq_some_iff.mp h
    obtain ⟨q2, hq2, h⟩ := Option.bind_eq_some_iff.mp h
    refine ru_callV (tm_X12_noType hl0 (by omega) hq2) dX12_bid_10 rfl pm_X12_295 mf_X12_noType (ab_rcv_of hrc rfl) rfl rfl (Nat.le_of_ble_eq_true rfl) ?_
    refine ru_if_ne (tgt := 75) dX12_bid_13 (by decide) (fun hc => ?_) (fun hc => ?_)
    · rw [if_neg hc] at h
      exact ru_pick [] rfl (tbb_X12_bid_75 hl0 hd    _ _ h)
    · rw [if_pos hc] at h
      refine ru_aload_n (i := 0) dX12_bid_16 rfl rfl <| ru_iload_n (i := 3) dX12_bid_17 rfl rfl <| ru_i2l dX12_bid_18 <| ru_lconst dX12_bid_19 (v := 1) rfl <| ru_ldc2_w dX12_bid_20 pk_X12_380 <| ?_
      obtain ⟨q3, hq3, h⟩ := Option.bind_eq_some_iff.mp h
      refine ru_callS (tm_X12_within hl0 (by omega) hq3) dX12_bid_23 rfl pm_X12_124 mf_X12_within rfl rfl (Nat.le_of_ble_eq_true rfl) ?_
      refine ru_if_ne (tgt := 33) dX12_bid_26 (by decide) (fun hc => ?_) (fun hc => ?_)
      · rw [if_neg hc] at h
        refine ru_iconst dX12_bid_33 kc_i_0 <| ?_
        exact ru_pick [0, 1, 2, 3] rfl (tbb_X12_bid_34 hl0 hd   _ _ _ _ _ _ _ _ h)
      · rw [if_pos hc] at h
        refine ru_iconst dX12_bid_29 kc_i_1 <| ru_goto (tgt := 34) dX12_bid_30 (by decide) <| ?_
        exact ru_pick [0, 1, 2, 3] rfl (tbb_X12_bid_34 hl0 hd   _ _ _ _ _ _ _ _ h)
theorem tm_X12_bid {l : Launch} {g : ab_G} (hl0 : l.stackTraces = false) {d : Nat} (hd : 4 ≤ d) {l0 : Nat} {l1 : Int32} {l2 : Int32} {l3 : Int32} {m : ab_Mm} {z : (Int32 × ab_Mm)} (h : dd_X12_bid l0 l1 l2 l3 m = some z) : ab_Met l g yX12_bid cX12_bid 5 (some .int) [] d [.ref l0, .int l1, .int l2, .int l3] m (.inl (some (.int z.1))) z.2 := by
  obtain ⟨d2, rfl⟩ : ∃ d2, d = d2 + 1 := ⟨d - 1, by omega⟩
  exact ab_of hl0 (by decide +kernel) (Nat.le_of_ble_eq_true rfl) (fun q => by cases q) rfl (te_X12_bid hl0 hd _ _ _ _ _ _ h)
theorem tbb_X12_withdraw_55 {l : Launch} {g : ab_G} (hl0 : l.stackTraces = false) {d2 : Nat} (hd : 4 ≤ d2 + 1) (r26 : Nat → Int32 → Int32 → Int32 → ab_Mm → Option (Int32 × ab_Mm)) (hr26 : ∀ (l0 : Nat) (l1 : Int32) (l2 : Int32) (l3 : Int32) (m : ab_Mm) (z : (Int32 × ab_Mm)), r26 l0 l1 l2 l3 m = some z → ab_W l g cX12_withdraw RX12 4 (some .int) [] false (d2 + 1) (.inl (some (.int z.1))) z.2 26 [(0, .ref l0), (1, .int l1), (2, .int l2), (3, .int l3)] [] m) (l0 : Nat) (l1 : Int32) (l2 : Int32) (l3 : Int32) (m0 : ab_Mm) (z : (Int32 × ab_Mm)) (h : bb_X12_withdraw_55 r26 l0 l1 l2 l3 m0 = some z) : ab_W l g cX12_withdraw RX12 4 (some .int) [] false (d2 + 1) (.inl (some (.int z.1))) z.2 55 [(0, .ref l0), (1, .int l1), (2, .int l2), (3, .int l3)] [] m0 := by
  unfold bb_X12_withdraw_55 at h
  refine ru_iinc dX12_withdraw_55 (by decide) rfl (ab_inc kc_i_m1) <| ru_goto (tgt := 26) dX12_withdraw_58 (by decide) <| ?_
  exact ru_pick [0, 1, 2, 3] rfl (hr26 _ _ _ _ _ _ h)
theorem tbb_X12_withdraw_26 {l : Launch} {g : ab_G} (hl0 : l.stackTraces = false) {d2 : Nat} (hd : 4 ≤ d2 + 1)   : ∀ (n : Nat) (l0 : Nat) (l1 : Int32) (l2 : Int32) (l3 : Int32) (m0 : ab_Mm) (z : (Int32 × ab_Mm)), bb_X12_withdraw_26  n l0 l1 l2 l3 m0 = some z → ab_W l g cX12_withdraw RX12 4 (some .int) [] false (d2 + 1) (.inl (some (.int z.1))) z.2 26 [(0, .ref l0), (1, .int l1), (2, .int l2), (3, .int l3)] [] m0 := by
  intro n
  induction n with
  | zero => intro l0 l1 l2 l3 m0 z h; cases h
  | succ n ih =>
    intro l0 l1 l2 l3 m0 z h
    rw [bb_X12_withdraw_26] at h
    refine ru_iload_n (i := 3) dX12_withdraw_26 rfl rfl <| ?_
    refine ru_if_lt (tgt := 61) dX12_withdraw_27 (by decide) (fun hc => ?_) (fun hc => ?_)
    · rw [if_pos hc] at h
      refine ru_iload_n (i := 2) dX12_withdraw_61 rfl rfl <| ?_
      cases h
      exact ru_ret (v := some (.int _)) ⟨_, rfl, rfl, dX12_withdraw_62⟩
    · rw [if_neg hc] at h
      refine ru_aload_n (i := 0) dX12_withdraw_30 rfl rfl <| ?_
      refine ru_getR h dX12_withdraw_31 lk_X12_7 ?_
      intro v1 h
      refine ru_bipush dX12_withdraw_34 kc_b_86 <| ru_iconst dX12_withdraw_36 kc_i_3 <| ru_iload_n (i := 3) dX12_withdraw_37 rfl rfl <| ru_imul dX12_withdraw_38 <| ru_iadd dX12_withdraw_39 <| ?_
      refine ru_laload h dX12_withdraw_40 ?_
      intro v2 h
      refine ru_iload_n (i := 1) dX12_withdraw_41 rfl rfl <| ru_i2l dX12_withdraw_42 <| ru_lcmp dX12_withdraw_43 <| ?_
      refine ru_if_ne (tgt := 55) dX12_withdraw_44 (by decide) (fun hc => ?_) (fun hc => ?_)
      · rw [if_neg hc] at h
        exact ru_pick [0, 1, 2, 3] rfl (tbb_X12_withdraw_55 hl0 hd _ ih _ _ _ _ _ _ h)
      · rw [if_pos hc] at h
        refine ru_aload_n (i := 0) dX12_withdraw_47 rfl rfl <| ru_iload_n (i := 3) dX12_withdraw_48 rfl rfl <| ?_
        obtain ⟨_, hrc, h⟩ := Option.bind_eq_some_iff.mp h
        obtain ⟨q3, hq3, h⟩ := Option.bind_eq_some_iff.mp h
        refine ru_callV (tm_X12_dropsRequest hl0 (by omega) hq3) dX12_withdraw_49 rfl pm_X12_366 mf_X12_dropsRequest (ab_rcv_of hrc rfl) rfl rfl (Nat.le_of_ble_eq_true rfl) ?_
        refine ru_iinc dX12_withdraw_52 (by decide) rfl (ab_inc kc_i_1) <| ?_
        exact ru_pick [0, 1, 2, 3] rfl (tbb_X12_withdraw_55 hl0 hd _ ih _ _ _ _ _ _ h)
theorem te_X12_withdraw {l : Launch} {g : ab_G} (hl0 : l.stackTraces = false) {d2 : Nat} (hd : 4 ≤ d2 + 1)   (l0 : Nat) (l1 : Int32) (m0 : ab_Mm) (z : (Int32 × ab_Mm)) (h : dd_X12_withdraw  l0 l1 m0 = some z) : ab_W l g cX12_withdraw RX12 4 (some .int) [] false (d2 + 1) (.inl (some (.int z.1))) z.2 0 [(0, .ref l0), (1, .int l1)] [] m0 := by
  unfold dd_X12_withdraw at h
  refine ru_aload_n (i := 0) dX12_withdraw_0 rfl rfl <| ru_iload_n (i := 1) dX12_withdraw_1 rfl rfl <| ?_
  obtain ⟨_, hrc, h⟩ := Option.bind_eq_some_iff.mp h
  obtain ⟨q1, hq1, h⟩ := Option.bind_eq_some_iff.mp h
  refine ru_callV (tm_X12_noTenant hl0 (by omega) hq1) dX12_withdraw_2 rfl pm_X12_329 mf_X12_noTenant (ab_rcv_of hrc rfl) rfl rfl (Nat.le_of_ble_eq_true rfl) ?_
  refine ru_if_eq (tgt := 10) dX12_withdraw_5 (by decide) (fun hc => ?_) (fun hc => ?_)
  · rw [if_pos hc] at h
    refine ru_aload_n (i := 0) dX12_withdraw_10 rfl rfl <| ?_
    obtain ⟨_, hrc, h⟩ := Option.bind_eq_some_iff.mp h
    obtain ⟨q2, hq2, h⟩ := Option.bind_eq_some_iff.mp h
    refine ru_callV (tm_X12_keeps hl0 (by omega) hq2) dX12_withdraw_11 rfl pm_X12_382 mf_X12_keeps (ab_rcv_of hrc rfl) rfl rfl (Nat.le_of_ble_eq_true rfl) ?_
    refine ru_iconst dX12_withdraw_14 kc_i_0 <| ru_istore_n (i := 2) dX12_withdraw_15 rfl (by decide) <| ru_aload_n (i := 0) dX12_withdraw_16 rfl rfl <| ?_
    refine ru_getR h dX12_withdraw_17 lk_X12_7 ?_
    intro v3 h
    refine ru_iconst dX12_withdraw_20 kc_i_1 <| ?_
    refine ru_laload h dX12_withdraw_21 ?_
    intro v4 h
    refine ru_l2i dX12_withdraw_22 <| ru_iconst dX12_withdraw_23 kc_i_1 <| ru_isub dX12_withdraw_24 <| ru_istore_n (i := 3) dX12_withdraw_25 rfl (by decide) <| ?_
    exact ru_pick [0, 1, 2, 3] rfl (tbb_X12_withdraw_26 hl0 hd   _ _ _ _ _ _ _ h)
  · rw [if_neg hc] at h
    refine ru_iconst dX12_withdraw_8 kc_i_0 <| ?_
    cases h
    exact ru_ret (v := some (.int _)) ⟨_, rfl, rfl, dX12_withdraw_9⟩
theorem tm_X12_withdraw {l : Launch} {g : ab_G} (hl0 : l.stackTraces = false) {d : Nat} (hd : 4 ≤ d) {l0 : Nat} {l1 : Int32} {m : ab_Mm} {z : (Int32 × ab_Mm)} (h : dd_X12_withdraw l0 l1 m = some z) : ab_Met l g yX12_withdraw cX12_withdraw 4 (some .int) [] d [.ref l0, .int l1] m (.inl (some (.int z.1))) z.2 := by
  obtain ⟨d2, rfl⟩ : ∃ d2, d = d2 + 1 := ⟨d - 1, by omega⟩
  exact ab_of hl0 (by decide +kernel) (Nat.le_of_ble_eq_true rfl) (fun q => by cases q) rfl (te_X12_withdraw hl0 hd _ _ _ _ h)
theorem te_X12_stop {l : Launch} {g : ab_G} (hl0 : l.stackTraces = false) {d2 : Nat} (hd : 4 ≤ d2 + 1)   (l0 : Nat) (l1 : Int32) (m0 : ab_Mm) (z : (Int32 × ab_Mm)) (h : dd_X12_stop  l0 l1 m0 = some z) : ab_W l g cX12_stop RX12 2 (some .int) [] false (d2 + 1) (.inl (some (.int z.1))) z.2 0 [(0, .ref l0), (1, .int l1)] [] m0 := by
  unfold dd_X12_stop at h
  refine ru_aload_n (i := 0) dX12_stop_0 rfl rfl <| ru_iload_n (i := 1) dX12_stop_1 rfl rfl <| ?_
  obtain ⟨_, hrc, h⟩ := Option.bind_eq_some_iff.mp h
  obtain ⟨q1, hq1, h⟩ := Option.bind_eq_some_iff.mp h
  refine ru_callV (tm_X12_noInstance hl0 (by omega) hq1) dX12_stop_2 rfl pm_X12_304 mf_X12_noInstance (ab_rcv_of hrc rfl) rfl rfl (Nat.le_of_ble_eq_true rfl) ?_
  refine ru_if_eq (tgt := 10) dX12_stop_5 (by decide) (fun hc => ?_) (fun hc => ?_)
  · rw [if_pos hc] at h
    refine ru_aload_n (i := 0) dX12_stop_10 rfl rfl <| ?_
    obtain ⟨_, hrc, h⟩ := Option.bind_eq_some_iff.mp h
    obtain ⟨q2, hq2, h⟩ := Option.bind_eq_some_iff.mp h
    refine ru_callV (tm_X12_keeps hl0 (by omega) hq2) dX12_stop_11 rfl pm_X12_382 mf_X12_keeps (ab_rcv_of hrc rfl) rfl rfl (Nat.le_of_ble_eq_true rfl) ?_
    refine ru_aload_n (i := 0) dX12_stop_14 rfl rfl <| ?_
    refine ru_getR h dX12_stop_15 lk_X12_7 ?_
    intro v3 h
    refine ru_iload_n (i := 1) dX12_stop_18 rfl rfl <| ru_iconst dX12_stop_19 kc_i_0 <| ?_
    obtain ⟨q4, hq4, h⟩ := Option.bind_eq_some_iff.mp h
    refine ru_callS (tm_X12_of hl0 (by omega) hq4) dX12_stop_20 rfl pm_X12_238 mf_X12_of rfl rfl (Nat.le_of_ble_eq_true rfl) ?_
    refine ru_ldc2_w dX12_stop_23 pk_X12_256 <| ?_
    refine ru_lastore h dX12_stop_26 ?_
    intro m5 h
    refine ru_aload_n (i := 0) dX12_stop_27 rfl rfl <| ru_iload_n (i := 1) dX12_stop_28 rfl rfl <| ru_iconst dX12_stop_29 kc_i_2 <| ?_
    obtain ⟨_, hrc, h⟩ := Option.bind_eq_some_iff.mp h
    obtain ⟨q6, hq6, h⟩ := Option.bind_eq_some_iff.mp h
    refine ru_callV (tm_X12_its hl0 (by omega) hq6) dX12_stop_30 rfl pm_X12_242 mf_X12_its (ab_rcv_of hrc rfl) rfl rfl (Nat.le_of_ble_eq_true rfl) ?_
    cases h
    exact ru_ret (v := some (.int _)) ⟨_, rfl, rfl, dX12_stop_33⟩
  · rw [if_neg hc] at h
    refine ru_iconst dX12_stop_8 kc_i_0 <| ?_
    cases h
    exact ru_ret (v := some (.int _)) ⟨_, rfl, rfl, dX12_stop_9⟩
theorem tm_X12_stop {l : Launch} {g : ab_G} (hl0 : l.stackTraces = false) {d : Nat} (hd : 4 ≤ d) {l0 : Nat} {l1 : Int32} {m : ab_Mm} {z : (Int32 × ab_Mm)} (h : dd_X12_stop l0 l1 m = some z) : ab_Met l g yX12_stop cX12_stop 2 (some .int) [] d [.ref l0, .int l1] m (.inl (some (.int z.1))) z.2 := by
  obtain ⟨d2, rfl⟩ : ∃ d2, d = d2 + 1 := ⟨d - 1, by omega⟩
  exact ab_of hl0 (by decide +kernel) (Nat.le_of_ble_eq_true rfl) (fun q => by cases q) rfl (te_X12_stop hl0 hd _ _ _ _ h)
theorem tbb_X12_evict_41 {l : Launch} {g : ab_G} (hl0 : l.stackTraces = false) {d2 : Nat} (hd : 4 ≤ d2 + 1)    (m0 : ab_Mm) (z : (Int32 × ab_Mm)) (h : bb_X12_evict_41   m0 = some z) : ab_W l g cX12_evict RX12 2 (some .int) [] false (d2 + 1) (.inl (some (.int z.1))) z.2 41 [] [] m0 := by
  unfold bb_X12_evict_41 at h
  refine ru_iconst dX12_evict_41 kc_i_0 <| ?_
  cases h
  exact ru_ret (v := some (.int _)) ⟨_, rfl, rfl, dX12_evict_42⟩
theorem tbb_X12_evict_34 {l : Launch} {g : ab_G} (hl0 : l.stackTraces = false) {d2 : Nat} (hd : 4 ≤ d2 + 1)   (l0 : Nat) (l1 : Int32) (s0 : Nat) (s1 : Int32) (m0 : ab_Mm) (z : (Int32 × ab_Mm)) (h : bb_X12_evict_34  l0 l1 s0 s1 m0 = some z) : ab_W l g cX12_evict RX12 2 (some .int) [] false (d2 + 1) (.inl (some (.int z.1))) z.2 34 [(0, .ref l0), (1, .int l1)] [.int s1, .ref s0] m0 := by
  unfold bb_X12_evict_34 at h
  refine ru_iconst dX12_evict_34 kc_i_2 <| ?_
  obtain ⟨_, hrc, h⟩ := Option.bind_eq_some_iff.mp h
  obtain ⟨q1, hq1, h⟩ := Option.bind_eq_some_iff.mp h
  refine ru_callV (tm_X12_throwsIf hl0 (by omega) hq1) dX12_evict_35 rfl pm_X12_249 mf_X12_throwsIf (ab_rcv_of hrc rfl) rfl rfl (Nat.le_of_ble_eq_true rfl) ?_
  refine ru_if_eq (tgt := 43) dX12_evict_38 (by decide) (fun hc => ?_) (fun hc => ?_)
  · rw [if_pos hc] at h
    refine ru_aload_n (i := 0) dX12_evict_43 rfl rfl <| ?_
    obtain ⟨_, hrc, h⟩ := Option.bind_eq_some_iff.mp h
    obtain ⟨q2, hq2, h⟩ := Option.bind_eq_some_iff.mp h
    refine ru_callV (tm_X12_keeps hl0 (by omega) hq2) dX12_evict_44 rfl pm_X12_382 mf_X12_keeps (ab_rcv_of hrc rfl) rfl rfl (Nat.le_of_ble_eq_true rfl) ?_
    refine ru_aload_n (i := 0) dX12_evict_47 rfl rfl <| ?_
    refine ru_getR h dX12_evict_48 lk_X12_7 ?_
    intro v3 h
    refine ru_iload_n (i := 1) dX12_evict_51 rfl rfl <| ru_iconst dX12_evict_52 kc_i_4 <| ?_
    obtain ⟨q4, hq4, h⟩ := Option.bind_eq_some_iff.mp h
    refine ru_callS (tm_X12_of hl0 (by omega) hq4) dX12_evict_53 rfl pm_X12_238 mf_X12_of rfl rfl (Nat.le_of_ble_eq_true rfl) ?_
    refine ru_aload_n (i := 0) dX12_evict_56 rfl rfl <| ?_
    refine ru_getR h dX12_evict_57 lk_X12_7 ?_
    intro v5 h
    refine ru_iconst dX12_evict_60 kc_i_0 <| ?_
    refine ru_laload h dX12_evict_61 ?_
    intro v6 h
    refine ru_aload_n (i := 0) dX12_evict_62 rfl rfl <| ?_
    refine ru_getR h dX12_evict_63 lk_X12_13 ?_
    intro v7 h
    refine ru_iconst dX12_evict_66 kc_i_5 <| ?_
    refine ru_iaload h dX12_evict_67 ?_
    intro v8 h
    refine ru_i2l dX12_evict_68 <| ru_ladd dX12_evict_69 <| ?_
    refine ru_lastore h dX12_evict_70 ?_
    intro m9 h
    refine ru_aload_n (i := 0) dX12_evict_71 rfl rfl <| ru_iload_n (i := 1) dX12_evict_72 rfl rfl <| ru_iconst dX12_evict_73 kc_i_4 <| ?_
    obtain ⟨_, hrc, h⟩ := Option.bind_eq_some_iff.mp h
    obtain ⟨q10, hq10, h⟩ := Option.bind_eq_some_iff.mp h
    refine ru_callV (tm_X12_its hl0 (by omega) hq10) dX12_evict_74 rfl pm_X12_242 mf_X12_its (ab_rcv_of hrc rfl) rfl rfl (Nat.le_of_ble_eq_true rfl) ?_
    cases h
    exact ru_ret (v := some (.int _)) ⟨_, rfl, rfl, dX12_evict_77⟩
  · rw [if_neg hc] at h
    exact ru_pick [] rfl (tbb_X12_evict_41 hl0 hd    _ _ h)
theorem tbb_X12_evict_29 {l : Launch} {g : ab_G} (hl0 : l.stackTraces = false) {d2 : Nat} (hd : 4 ≤ d2 + 1)   (l0 : Nat) (l1 : Int32) (s0 : Nat) (m0 : ab_Mm) (z : (Int32 × ab_Mm)) (h : bb_X12_evict_29  l0 l1 s0 m0 = some z) : ab_W l g cX12_evict RX12 2 (some .int) [] false (d2 + 1) (.inl (some (.int z.1))) z.2 29 [(0, .ref l0), (1, .int l1)] [.ref s0] m0 := by
  unfold bb_X12_evict_29 at h
  refine ru_iconst dX12_evict_29 kc_i_1 <| ru_goto (tgt := 34) dX12_evict_30 (by decide) <| ?_
  exact ru_pick [0, 1] rfl (tbb_X12_evict_34 hl0 hd   _ _ _ _ _ _ h)
theorem te_X12_evict {l : Launch} {g : ab_G} (hl0 : l.stackTraces = false) {d2 : Nat} (hd : 4 ≤ d2 + 1)   (l0 : Nat) (l1 : Int32) (m0 : ab_Mm) (z : (Int32 × ab_Mm)) (h : dd_X12_evict  l0 l1 m0 = some z) : ab_W l g cX12_evict RX12 2 (some .int) [] false (d2 + 1) (.inl (some (.int z.1))) z.2 0 [(0, .ref l0), (1, .int l1)] [] m0 := by
  unfold dd_X12_evict at h
  refine ru_aload_n (i := 0) dX12_evict_0 rfl rfl <| ru_iload_n (i := 1) dX12_evict_1 rfl rfl <| ?_
  obtain ⟨_, hrc, h⟩ := Option.bind_eq_some_iff.mp h
  obtain ⟨q1, hq1, h⟩ := Option.bind_eq_some_iff.mp h
  refine ru_callV (tm_X12_noInstance hl0 (by omega) hq1) dX12_evict_2 rfl pm_X12_304 mf_X12_noInstance (ab_rcv_of hrc rfl) rfl rfl (Nat.le_of_ble_eq_true rfl) ?_
  refine ru_if_ne (tgt := 41) dX12_evict_5 (by decide) (fun hc => ?_) (fun hc => ?_)
  · rw [if_neg hc] at h
    exact ru_pick [] rfl (tbb_X12_evict_41 hl0 hd    _ _ h)
  · rw [if_pos hc] at h
    refine ru_aload_n (i := 0) dX12_evict_8 rfl rfl <| ru_aload_n (i := 0) dX12_evict_9 rfl rfl <| ru_iload_n (i := 1) dX12_evict_10 rfl rfl <| ru_iconst dX12_evict_11 kc_i_3 <| ?_
    obtain ⟨_, hrc, h⟩ := Option.bind_eq_some_iff.mp h
    obtain ⟨q2, hq2, h⟩ := Option.bind_eq_some_iff.mp h
    refine ru_callV (tm_X12_its hl0 (by omega) hq2) dX12_evict_12 rfl pm_X12_242 mf_X12_its (ab_rcv_of hrc rfl) rfl rfl (Nat.le_of_ble_eq_true rfl) ?_
    refine ru_iconst dX12_evict_15 kc_i_m1 <| ?_
    refine ru_icmp_eq (tgt := 29) dX12_evict_16 (by decide) (fun hc => ?_) (fun hc => ?_)
    · rw [if_pos hc] at h
      exact ru_pick [0, 1] rfl (tbb_X12_evict_29 hl0 hd   _ _ _ _ _ h)
    · rw [if_neg hc] at h
      refine ru_aload_n (i := 0) dX12_evict_19 rfl rfl <| ru_iload_n (i := 1) dX12_evict_20 rfl rfl <| ru_iconst dX12_evict_21 kc_i_4 <| ?_
      obtain ⟨_, hrc, h⟩ := Option.bind_eq_some_iff.mp h
      obtain ⟨q3, hq3, h⟩ := Option.bind_eq_some_iff.mp h
      refine ru_callV (tm_X12_its hl0 (by omega) hq3) dX12_evict_22 rfl pm_X12_242 mf_X12_its (ab_rcv_of hrc rfl) rfl rfl (Nat.le_of_ble_eq_true rfl) ?_
      refine ru_iconst dX12_evict_25 kc_i_m1 <| ?_
      refine ru_icmp_eq (tgt := 33) dX12_evict_26 (by decide) (fun hc => ?_) (fun hc => ?_)
      · rw [if_pos hc] at h
        refine ru_iconst dX12_evict_33 kc_i_0 <| ?_
        exact ru_pick [0, 1] rfl (tbb_X12_evict_34 hl0 hd   _ _ _ _ _ _ h)
      · rw [if_neg hc] at h
        exact ru_pick [0, 1] rfl (tbb_X12_evict_29 hl0 hd   _ _ _ _ _ h)
theorem tm_X12_evict {l : Launch} {g : ab_G} (hl0 : l.stackTraces = false) {d : Nat} (hd : 4 ≤ d) {l0 : Nat} {l1 : Int32} {m : ab_Mm} {z : (Int32 × ab_Mm)} (h : dd_X12_evict l0 l1 m = some z) : ab_Met l g yX12_evict cX12_evict 2 (some .int) [] d [.ref l0, .int l1] m (.inl (some (.int z.1))) z.2 := by
  obtain ⟨d2, rfl⟩ : ∃ d2, d = d2 + 1 := ⟨d - 1, by omega⟩
  exact ab_of hl0 (by decide +kernel) (Nat.le_of_ble_eq_true rfl) (fun q => by cases q) rfl (te_X12_evict hl0 hd _ _ _ _ h)
theorem te_X12_moves {l : Launch} {g : ab_G} (hl0 : l.stackTraces = false) {d2 : Nat} (hd : 4 ≤ d2 + 1)   (l0 : Nat) (l1 : Int32) (l2 : Int32) (m0 : ab_Mm) (z : (Int32 × ab_Mm)) (h : dd_X12_moves  l0 l1 l2 m0 = some z) : ab_W l g cX12_moves RX12 4 (some .int) [] false (d2 + 1) (.inl (some (.int z.1))) z.2 0 [(0, .ref l0), (1, .int l1), (2, .int l2)] [] m0 := by
  unfold dd_X12_moves at h
  refine ru_aload_n (i := 0) dX12_moves_0 rfl rfl <| ru_iload_n (i := 1) dX12_moves_1 rfl rfl <| ?_
  obtain ⟨_, hrc, h⟩ := Option.bind_eq_some_iff.mp h
  obtain ⟨q1, hq1, h⟩ := Option.bind_eq_some_iff.mp h
  refine ru_callV (tm_X12_costOf hl0 (by omega) hq1) dX12_moves_2 rfl pm_X12_350 mf_X12_costOf (ab_rcv_of hrc rfl) rfl rfl (Nat.le_of_ble_eq_true rfl) ?_
  refine ru_istore_n (i := 3) dX12_moves_5 rfl (by decide) <| ru_aload_n (i := 0) dX12_moves_6 rfl rfl <| ?_
  refine ru_getR h dX12_moves_7 lk_X12_7 ?_
  intro v2 h
  refine ru_bipush dX12_moves_10 kc_b_8 <| ru_aload_n (i := 0) dX12_moves_12 rfl rfl <| ru_iload_n (i := 1) dX12_moves_13 rfl rfl <| ru_iconst dX12_moves_14 kc_i_0 <| ?_
  obtain ⟨_, hrc, h⟩ := Option.bind_eq_some_iff.mp h
  obtain ⟨q3, hq3, h⟩ := Option.bind_eq_some_iff.mp h
  refine ru_callV (tm_X12_its hl0 (by omega) hq3) dX12_moves_15 rfl pm_X12_242 mf_X12_its (ab_rcv_of hrc rfl) rfl rfl (Nat.le_of_ble_eq_true rfl) ?_
  refine ru_iadd dX12_moves_18 <| ru_dup2 dX12_moves_19 rfl rfl <| ?_
  refine ru_laload h dX12_moves_20 ?_
  intro v4 h
  refine ru_iload_n (i := 3) dX12_moves_21 rfl rfl <| ru_i2l dX12_moves_22 <| ru_ladd dX12_moves_23 <| ?_
  refine ru_lastore h dX12_moves_24 ?_
  intro m5 h
  refine ru_aload_n (i := 0) dX12_moves_25 rfl rfl <| ?_
  refine ru_getR h dX12_moves_26 lk_X12_7 ?_
  intro v6 h
  refine ru_iload_n (i := 1) dX12_moves_29 rfl rfl <| ru_iconst dX12_moves_30 kc_i_2 <| ?_
  obtain ⟨q7, hq7, h⟩ := Option.bind_eq_some_iff.mp h
  refine ru_callS (tm_X12_of hl0 (by omega) hq7) dX12_moves_31 rfl pm_X12_238 mf_X12_of rfl rfl (Nat.le_of_ble_eq_true rfl) ?_
  refine ru_iload_n (i := 2) dX12_moves_34 rfl rfl <| ru_i2l dX12_moves_35 <| ?_
  refine ru_lastore h dX12_moves_36 ?_
  intro m8 h
  refine ru_iload_n (i := 3) dX12_moves_37 rfl rfl <| ?_
  cases h
  exact ru_ret (v := some (.int _)) ⟨_, rfl, rfl, dX12_moves_38⟩
theorem tm_X12_moves {l : Launch} {g : ab_G} (hl0 : l.stackTraces = false) {d : Nat} (hd : 4 ≤ d) {l0 : Nat} {l1 : Int32} {l2 : Int32} {m : ab_Mm} {z : (Int32 × ab_Mm)} (h : dd_X12_moves l0 l1 l2 m = some z) : ab_Met l g yX12_moves cX12_moves 4 (some .int) [] d [.ref l0, .int l1, .int l2] m (.inl (some (.int z.1))) z.2 := by
  obtain ⟨d2, rfl⟩ : ∃ d2, d = d2 + 1 := ⟨d - 1, by omega⟩
  exact ab_of hl0 (by decide +kernel) (Nat.le_of_ble_eq_true rfl) (fun q => by cases q) rfl (te_X12_moves hl0 hd _ _ _ _ _ h)
theorem tbb_X12_migrate_52 {l : Launch} {g : ab_G} (hl0 : l.stackTraces = false) {d2 : Nat} (hd : 6 ≤ d2 + 1)    (m0 : ab_Mm) (z : (Int32 × ab_Mm)) (h : bb_X12_migrate_52   m0 = some z) : ab_W l g cX12_migrate RX12 3 (some .int) [] false (d2 + 1) (.inl (some (.int z.1))) z.2 52 [] [] m0 := by
  unfold bb_X12_migrate_52 at h
  refine ru_iconst dX12_migrate_52 kc_i_0 <| ?_
  cases h
  exact ru_ret (v := some (.int _)) ⟨_, rfl, rfl, dX12_migrate_53⟩
theorem tbb_X12_migrate_45 {l : Launch} {g : ab_G} (hl0 : l.stackTraces = false) {d2 : Nat} (hd : 6 ≤ d2 + 1)   (l0 : Nat) (l1 : Int32) (l2 : Int32) (s0 : Nat) (s1 : Int32) (m0 : ab_Mm) (z : (Int32 × ab_Mm)) (h : bb_X12_migrate_45  l0 l1 l2 s0 s1 m0 = some z) : ab_W l g cX12_migrate RX12 3 (some .int) [] false (d2 + 1) (.inl (some (.int z.1))) z.2 45 [(0, .ref l0), (1, .int l1), (2, .int l2)] [.int s1, .ref s0] m0 := by
  unfold bb_X12_migrate_45 at h
  refine ru_iconst dX12_migrate_45 kc_i_2 <| ?_
  obtain ⟨_, hrc, h⟩ := Option.bind_eq_some_iff.mp h
  obtain ⟨q1, hq1, h⟩ := Option.bind_eq_some_iff.mp h
  refine ru_callV (tm_X12_throwsIf hl0 (by omega) hq1) dX12_migrate_46 rfl pm_X12_249 mf_X12_throwsIf (ab_rcv_of hrc rfl) rfl rfl (Nat.le_of_ble_eq_true rfl) ?_
  refine ru_if_eq (tgt := 54) dX12_migrate_49 (by decide) (fun hc => ?_) (fun hc => ?_)
  · rw [if_pos hc] at h
    refine ru_aload_n (i := 0) dX12_migrate_54 rfl rfl <| ?_
    obtain ⟨_, hrc, h⟩ := Option.bind_eq_some_iff.mp h
    obtain ⟨q2, hq2, h⟩ := Option.bind_eq_some_iff.mp h
    refine ru_callV (tm_X12_keeps hl0 (by omega) hq2) dX12_migrate_55 rfl pm_X12_382 mf_X12_keeps (ab_rcv_of hrc rfl) rfl rfl (Nat.le_of_ble_eq_true rfl) ?_
    refine ru_aload_n (i := 0) dX12_migrate_58 rfl rfl <| ru_iload_n (i := 1) dX12_migrate_59 rfl rfl <| ru_iload_n (i := 2) dX12_migrate_60 rfl rfl <| ?_
    obtain ⟨_, hrc, h⟩ := Option.bind_eq_some_iff.mp h
    obtain ⟨q3, hq3, h⟩ := Option.bind_eq_some_iff.mp h
    refine ru_callV (tm_X12_moves hl0 (by omega) hq3) dX12_migrate_61 rfl pm_X12_387 mf_X12_moves (ab_rcv_of hrc rfl) rfl rfl (Nat.le_of_ble_eq_true rfl) ?_
    cases h
    exact ru_ret (v := some (.int _)) ⟨_, rfl, rfl, dX12_migrate_64⟩
  · rw [if_neg hc] at h
    exact ru_pick [] rfl (tbb_X12_migrate_52 hl0 hd    _ _ h)
theorem tbb_X12_migrate_40 {l : Launch} {g : ab_G} (hl0 : l.stackTraces = false) {d2 : Nat} (hd : 6 ≤ d2 + 1)   (l0 : Nat) (l1 : Int32) (l2 : Int32) (s0 : Nat) (m0 : ab_Mm) (z : (Int32 × ab_Mm)) (h : bb_X12_migrate_40  l0 l1 l2 s0 m0 = some z) : ab_W l g cX12_migrate RX12 3 (some .int) [] false (d2 + 1) (.inl (some (.int z.1))) z.2 40 [(0, .ref l0), (1, .int l1), (2, .int l2)] [.ref s0] m0 := by
  unfold bb_X12_migrate_40 at h
  refine ru_iconst dX12_migrate_40 kc_i_1 <| ru_goto (tgt := 45) dX12_migrate_41 (by decide) <| ?_
  exact ru_pick [0, 1, 2] rfl (tbb_X12_migrate_45 hl0 hd   _ _ _ _ _ _ _ h)
theorem te_X12_migrate {l : Launch} {g : ab_G} (hl0 : l.stackTraces = false) {d2 : Nat} (hd : 6 ≤ d2 + 1)   (l0 : Nat) (l1 : Int32) (l2 : Int32) (m0 : ab_Mm) (z : (Int32 × ab_Mm)) (h : dd_X12_migrate  l0 l1 l2 m0 = some z) : ab_W l g cX12_migrate RX12 3 (some .int) [] false (d2 + 1) (.inl (some (.int z.1))) z.2 0 [(0, .ref l0), (1, .int l1), (2, .int l2)] [] m0 := by
  unfold dd_X12_migrate at h
  refine ru_aload_n (i := 0) dX12_migrate_0 rfl rfl <| ru_iload_n (i := 1) dX12_migrate_1 rfl rfl <| ?_
  obtain ⟨_, hrc, h⟩ := Option.bind_eq_some_iff.mp h
  obtain ⟨q1, hq1, h⟩ := Option.bind_eq_some_iff.mp h
  refine ru_callV (tm_X12_noInstance hl0 (by omega) hq1) dX12_migrate_2 rfl pm_X12_304 mf_X12_noInstance (ab_rcv_of hrc rfl) rfl rfl (Nat.le_of_ble_eq_true rfl) ?_
  refine ru_if_ne (tgt := 52) dX12_migrate_5 (by decide) (fun hc => ?_) (fun hc => ?_)
  · rw [if_neg hc] at h
    exact ru_pick [] rfl (tbb_X12_migrate_52 hl0 hd    _ _ h)
  · rw [if_pos hc] at h
    refine ru_aload_n (i := 0) dX12_migrate_8 rfl rfl <| ru_iload_n (i := 2) dX12_migrate_9 rfl rfl <| ?_
    obtain ⟨_, hrc, h⟩ := Option.bind_eq_some_iff.mp h
    obtain ⟨q2, hq2, h⟩ := Option.bind_eq_some_iff.mp h
    refine ru_callV (tm_X12_noHost hl0 (by omega) hq2) dX12_migrate_10 rfl pm_X12_289 mf_X12_noHost (ab_rcv_of hrc rfl) rfl rfl (Nat.le_of_ble_eq_true rfl) ?_
    refine ru_if_ne (tgt := 52) dX12_migrate_13 (by decide) (fun hc => ?_) (fun hc => ?_)
    · rw [if_neg hc] at h
      exact ru_pick [] rfl (tbb_X12_migrate_52 hl0 hd    _ _ h)
    · rw [if_pos hc] at h
      refine ru_aload_n (i := 0) dX12_migrate_16 rfl rfl <| ru_aload_n (i := 0) dX12_migrate_17 rfl rfl <| ru_iload_n (i := 1) dX12_migrate_18 rfl rfl <| ru_iload_n (i := 2) dX12_migrate_19 rfl rfl <| ?_
      obtain ⟨_, hrc, h⟩ := Option.bind_eq_some_iff.mp h
      obtain ⟨q3, hq3, h⟩ := Option.bind_eq_some_iff.mp h
      refine ru_callV (tm_X12_isOn hl0 (by omega) hq3) dX12_migrate_20 rfl pm_X12_267 mf_X12_isOn (ab_rcv_of hrc rfl) rfl rfl (Nat.le_of_ble_eq_true rfl) ?_
      refine ru_if_ne (tgt := 40) dX12_migrate_23 (by decide) (fun hc => ?_) (fun hc => ?_)
      · rw [if_neg hc] at h
        exact ru_pick [0, 1, 2] rfl (tbb_X12_migrate_40 hl0 hd   _ _ _ _ _ _ h)
      · rw [if_pos hc] at h
        refine ru_aload_n (i := 0) dX12_migrate_26 rfl rfl <| ru_aload_n (i := 0) dX12_migrate_27 rfl rfl <| ru_iload_n (i := 1) dX12_migrate_28 rfl rfl <| ru_iconst dX12_migrate_29 kc_i_1 <| ?_
        obtain ⟨_, hrc, h⟩ := Option.bind_eq_some_iff.mp h
        obtain ⟨q4, hq4, h⟩ := Option.bind_eq_some_iff.mp h
        refine ru_callV (tm_X12_its hl0 (by omega) hq4) dX12_migrate_30 rfl pm_X12_242 mf_X12_its (ab_rcv_of hrc rfl) rfl rfl (Nat.le_of_ble_eq_true rfl) ?_
        refine ru_iload_n (i := 2) dX12_migrate_33 rfl rfl <| ?_
        obtain ⟨_, hrc, h⟩ := Option.bind_eq_some_iff.mp h
        obtain ⟨q5, hq5, h⟩ := Option.bind_eq_some_iff.mp h
        refine ru_callV (tm_X12_fits hl0 (by omega) hq5) dX12_migrate_34 rfl pm_X12_276 mf_X12_fits (ab_rcv_of hrc rfl) rfl rfl (Nat.le_of_ble_eq_true rfl) ?_
        refine ru_if_ne (tgt := 44) dX12_migrate_37 (by decide) (fun hc => ?_) (fun hc => ?_)
        · rw [if_neg hc] at h
          refine ru_iconst dX12_migrate_44 kc_i_0 <| ?_
          exact ru_pick [0, 1, 2] rfl (tbb_X12_migrate_45 hl0 hd   _ _ _ _ _ _ _ h)
        · rw [if_pos hc] at h
          exact ru_pick [0, 1, 2] rfl (tbb_X12_migrate_40 hl0 hd   _ _ _ _ _ _ h)
theorem tm_X12_migrate {l : Launch} {g : ab_G} (hl0 : l.stackTraces = false) {d : Nat} (hd : 6 ≤ d) {l0 : Nat} {l1 : Int32} {l2 : Int32} {m : ab_Mm} {z : (Int32 × ab_Mm)} (h : dd_X12_migrate l0 l1 l2 m = some z) : ab_Met l g yX12_migrate cX12_migrate 3 (some .int) [] d [.ref l0, .int l1, .int l2] m (.inl (some (.int z.1))) z.2 := by
  obtain ⟨d2, rfl⟩ : ∃ d2, d = d2 + 1 := ⟨d - 1, by omega⟩
  exact ab_of hl0 (by decide +kernel) (Nat.le_of_ble_eq_true rfl) (fun q => by cases q) rfl (te_X12_migrate hl0 hd _ _ _ _ _ h)
theorem tbb_X12_drain_85 {l : Launch} {g : ab_G} (hl0 : l.stackTraces = false) {d2 : Nat} (hd : 37 ≤ d2 + 1) (r59 : Nat → Int32 → Int32 → ab_Mm → Option (Int32 × ab_Mm)) (hr59 : ∀ (l0 : Nat) (l2 : Int32) (l3 : Int32) (m : ab_Mm) (z : (Int32 × ab_Mm)), r59 l0 l2 l3 m = some z → ab_W l g cX12_drain RX12 4 (some .int) [] false (d2 + 1) (.inl (some (.int z.1))) z.2 59 [(0, .ref l0), (2, .int l2), (3, .int l3)] [] m) (l0 : Nat) (l2 : Int32) (l3 : Int32) (m0 : ab_Mm) (z : (Int32 × ab_Mm)) (h : bb_X12_drain_85 r59 l0 l2 l3 m0 = some z) : ab_W l g cX12_drain RX12 4 (some .int) [] false (d2 + 1) (.inl (some (.int z.1))) z.2 85 [(0, .ref l0), (2, .int l2), (3, .int l3)] [] m0 := by
  unfold bb_X12_drain_85 at h
  refine ru_iinc dX12_drain_85 (by decide) rfl (ab_inc kc_i_1) <| ru_goto (tgt := 59) dX12_drain_88 (by decide) <| ?_
  exact ru_pick [0, 2, 3] rfl (hr59 _ _ _ _ _ h)
theorem tbb_X12_drain_59 {l : Launch} {g : ab_G} (hl0 : l.stackTraces = false) {d2 : Nat} (hd : 37 ≤ d2 + 1)   : ∀ (n : Nat) (l0 : Nat) (l2 : Int32) (l3 : Int32) (m0 : ab_Mm) (z : (Int32 × ab_Mm)), bb_X12_drain_59  n l0 l2 l3 m0 = some z → ab_W l g cX12_drain RX12 4 (some .int) [] false (d2 + 1) (.inl (some (.int z.1))) z.2 59 [(0, .ref l0), (2, .int l2), (3, .int l3)] [] m0 := by
  intro n
  induction n with
  | zero => intro l0 l2 l3 m0 z h; cases h
  | succ n ih =>
    intro l0 l2 l3 m0 z h
    rw [bb_X12_drain_59] at h
    refine ru_iload_n (i := 3) dX12_drain_59 rfl rfl <| ru_bipush dX12_drain_60 kc_b_12 <| ?_
    refine ru_icmp_ge (tgt := 91) dX12_drain_62 (by decide) (fun hc => ?_) (fun hc => ?_)
    · rw [if_pos hc] at h
      refine ru_iload_n (i := 2) dX12_drain_91 rfl rfl <| ?_
      obtain ⟨q1, hq1, h⟩ := Option.bind_eq_some_iff.mp h
      refine ru_callS (tm_X12_bits hl0 (by omega) hq1) dX12_drain_92 rfl pm_X12_347 mf_X12_bits rfl rfl (Nat.le_of_ble_eq_true rfl) ?_
      cases h
      exact ru_ret (v := some (.int _)) ⟨_, rfl, rfl, dX12_drain_95⟩
    · rw [if_neg hc] at h
      refine ru_iload_n (i := 2) dX12_drain_65 rfl rfl <| ru_iload_n (i := 3) dX12_drain_66 rfl rfl <| ?_
      obtain ⟨q2, hq2, h⟩ := Option.bind_eq_some_iff.mp h
      refine ru_callS (tm_X12_has hl0 (by omega) hq2) dX12_drain_67 rfl pm_X12_159 mf_X12_has rfl rfl (Nat.le_of_ble_eq_true rfl) ?_
      refine ru_if_eq (tgt := 85) dX12_drain_70 (by decide) (fun hc => ?_) (fun hc => ?_)
      · rw [if_pos hc] at h
        exact ru_pick [0, 2, 3] rfl (tbb_X12_drain_85 hl0 hd _ ih _ _ _ _ _ h)
      · rw [if_neg hc] at h
        refine ru_aload_n (i := 0) dX12_drain_73 rfl rfl <| ru_iload_n (i := 3) dX12_drain_74 rfl rfl <| ru_aload_n (i := 0) dX12_drain_75 rfl rfl <| ?_
        refine ru_getR h dX12_drain_76 lk_X12_58 ?_
        intro v3 h
        refine ru_iload_n (i := 3) dX12_drain_79 rfl rfl <| ?_
        refine ru_iaload h dX12_drain_80 ?_
        intro v4 h
        obtain ⟨_, hrc, h⟩ := Option.bind_eq_some_iff.mp h
        obtain ⟨q5, hq5, h⟩ := Option.bind_eq_some_iff.mp h
        refine ru_callV (tm_X12_moves hl0 (by omega) hq5) dX12_drain_81 rfl pm_X12_387 mf_X12_moves (ab_rcv_of hrc rfl) rfl rfl (Nat.le_of_ble_eq_true rfl) ?_
        refine ru_pop dX12_drain_84 rfl <| ?_
        exact ru_pick [0, 2, 3] rfl (tbb_X12_drain_85 hl0 hd _ ih _ _ _ _ _ h)
theorem tbb_X12_drain_44 {l : Launch} {g : ab_G} (hl0 : l.stackTraces = false) {d2 : Nat} (hd : 37 ≤ d2 + 1)   (l0 : Nat) (l2 : Int32) (s0 : Nat) (s1 : Int32) (m0 : ab_Mm) (z : (Int32 × ab_Mm)) (h : bb_X12_drain_44  l0 l2 s0 s1 m0 = some z) : ab_W l g cX12_drain RX12 4 (some .int) [] false (d2 + 1) (.inl (some (.int z.1))) z.2 44 [(0, .ref l0), (2, .int l2)] [.int s1, .ref s0] m0 := by
  unfold bb_X12_drain_44 at h
  refine ru_iconst dX12_drain_44 kc_i_2 <| ?_
  obtain ⟨_, hrc, h⟩ := Option.bind_eq_some_iff.mp h
  obtain ⟨q1, hq1, h⟩ := Option.bind_eq_some_iff.mp h
  refine ru_callV (tm_X12_throwsIf hl0 (by omega) hq1) dX12_drain_45 rfl pm_X12_249 mf_X12_throwsIf (ab_rcv_of hrc rfl) rfl rfl (Nat.le_of_ble_eq_true rfl) ?_
  refine ru_if_eq (tgt := 53) dX12_drain_48 (by decide) (fun hc => ?_) (fun hc => ?_)
  · rw [if_pos hc] at h
    refine ru_aload_n (i := 0) dX12_drain_53 rfl rfl <| ?_
    obtain ⟨_, hrc, h⟩ := Option.bind_eq_some_iff.mp h
    obtain ⟨q2, hq2, h⟩ := Option.bind_eq_some_iff.mp h
    refine ru_callV (tm_X12_keeps hl0 (by omega) hq2) dX12_drain_54 rfl pm_X12_382 mf_X12_keeps (ab_rcv_of hrc rfl) rfl rfl (Nat.le_of_ble_eq_true rfl) ?_
    refine ru_iconst dX12_drain_57 kc_i_0 <| ru_istore_n (i := 3) dX12_drain_58 rfl (by decide) <| ?_
    exact ru_pick [0, 2, 3] rfl (tbb_X12_drain_59 hl0 hd   _ _ _ _ _ _ h)
  · rw [if_neg hc] at h
    refine ru_iconst dX12_drain_51 kc_i_0 <| ?_
    cases h
    exact ru_ret (v := some (.int _)) ⟨_, rfl, rfl, dX12_drain_52⟩
theorem tbb_X12_drain_39 {l : Launch} {g : ab_G} (hl0 : l.stackTraces = false) {d2 : Nat} (hd : 37 ≤ d2 + 1)   (l0 : Nat) (l2 : Int32) (s0 : Nat) (m0 : ab_Mm) (z : (Int32 × ab_Mm)) (h : bb_X12_drain_39  l0 l2 s0 m0 = some z) : ab_W l g cX12_drain RX12 4 (some .int) [] false (d2 + 1) (.inl (some (.int z.1))) z.2 39 [(0, .ref l0), (2, .int l2)] [.ref s0] m0 := by
  unfold bb_X12_drain_39 at h
  refine ru_iconst dX12_drain_39 kc_i_1 <| ru_goto (tgt := 44) dX12_drain_40 (by decide) <| ?_
  exact ru_pick [0, 2] rfl (tbb_X12_drain_44 hl0 hd   _ _ _ _ _ _ h)
theorem te_X12_drain {l : Launch} {g : ab_G} (hl0 : l.stackTraces = false) {d2 : Nat} (hd : 37 ≤ d2 + 1)   (l0 : Nat) (l1 : Int32) (m0 : ab_Mm) (z : (Int32 × ab_Mm)) (h : dd_X12_drain  l0 l1 m0 = some z) : ab_W l g cX12_drain RX12 4 (some .int) [] false (d2 + 1) (.inl (some (.int z.1))) z.2 0 [(0, .ref l0), (1, .int l1)] [] m0 := by
  unfold dd_X12_drain at h
  refine ru_aload_n (i := 0) dX12_drain_0 rfl rfl <| ru_iload_n (i := 1) dX12_drain_1 rfl rfl <| ?_
  obtain ⟨_, hrc, h⟩ := Option.bind_eq_some_iff.mp h
  obtain ⟨q1, hq1, h⟩ := Option.bind_eq_some_iff.mp h
  refine ru_callV (tm_X12_noHost hl0 (by omega) hq1) dX12_drain_2 rfl pm_X12_289 mf_X12_noHost (ab_rcv_of hrc rfl) rfl rfl (Nat.le_of_ble_eq_true rfl) ?_
  refine ru_if_eq (tgt := 10) dX12_drain_5 (by decide) (fun hc => ?_) (fun hc => ?_)
  · rw [if_pos hc] at h
    refine ru_aload_n (i := 0) dX12_drain_10 rfl rfl <| ru_iload_n (i := 1) dX12_drain_11 rfl rfl <| ?_
    obtain ⟨_, hrc, h⟩ := Option.bind_eq_some_iff.mp h
    obtain ⟨q2, hq2, h⟩ := Option.bind_eq_some_iff.mp h
    refine ru_callV (tm_X12_onHost hl0 (by omega) hq2) dX12_drain_12 rfl pm_X12_292 mf_X12_onHost (ab_rcv_of hrc rfl) rfl rfl (Nat.le_of_ble_eq_true rfl) ?_
    refine ru_istore_n (i := 2) dX12_drain_15 rfl (by decide) <| ru_aload_n (i := 0) dX12_drain_16 rfl rfl <| ru_iload_n (i := 2) dX12_drain_17 rfl rfl <| ?_
    refine ru_if_eq (tgt := 39) dX12_drain_18 (by decide) (fun hc => ?_) (fun hc => ?_)
    · rw [if_pos hc] at h
      exact ru_pick [0, 2] rfl (tbb_X12_drain_39 hl0 hd   _ _ _ _ _ h)
    · rw [if_neg hc] at h
      refine ru_iload_n (i := 2) dX12_drain_21 rfl rfl <| ?_
      obtain ⟨q3, hq3, h⟩ := Option.bind_eq_some_iff.mp h
      refine ru_callS (tm_X12_bits hl0 (by omega) hq3) dX12_drain_22 rfl pm_X12_347 mf_X12_bits rfl rfl (Nat.le_of_ble_eq_true rfl) ?_
      refine ru_iconst dX12_drain_25 kc_i_5 <| ?_
      refine ru_icmp_gt (tgt := 39) dX12_drain_26 (by decide) (fun hc => ?_) (fun hc => ?_)
      · rw [if_pos hc] at h
        exact ru_pick [0, 2] rfl (tbb_X12_drain_39 hl0 hd   _ _ _ _ _ h)
      · rw [if_neg hc] at h
        refine ru_aload_n (i := 0) dX12_drain_29 rfl rfl <| ru_iload_n (i := 1) dX12_drain_30 rfl rfl <| ru_iload_n (i := 2) dX12_drain_31 rfl rfl <| ru_iconst dX12_drain_32 kc_i_0 <| ?_
        obtain ⟨_, hrc, h⟩ := Option.bind_eq_some_iff.mp h
        obtain ⟨q4, hq4, h⟩ := Option.bind_eq_some_iff.mp h
        refine ru_callV (tm_X12_drains hl0 (by omega) hq4) dX12_drain_33 rfl pm_X12_353 mf_X12_drains (ab_rcv_of hrc rfl) rfl rfl (Nat.le_of_ble_eq_true rfl) ?_
        refine ru_if_ne (tgt := 43) dX12_drain_36 (by decide) (fun hc => ?_) (fun hc => ?_)
        · rw [if_neg hc] at h
          refine ru_iconst dX12_drain_43 kc_i_0 <| ?_
          exact ru_pick [0, 2] rfl (tbb_X12_drain_44 hl0 hd   _ _ _ _ _ _ h)
        · rw [if_pos hc] at h
          exact ru_pick [0, 2] rfl (tbb_X12_drain_39 hl0 hd   _ _ _ _ _ h)
  · rw [if_neg hc] at h
    refine ru_iconst dX12_drain_8 kc_i_0 <| ?_
    cases h
    exact ru_ret (v := some (.int _)) ⟨_, rfl, rfl, dX12_drain_9⟩
