/-! ===== the methods keep to these functions (by program) ===== -/
theorem tm_X8_spentBy {l : Launch} {g : ab_G} (hl0 : l.stackTraces = false) {d : Nat} (hd : 1 ≤ d) {l0 : Nat} {l1 : Int32} {m : ab_Mm} {z : (Int64 × ab_Mm)} (h : dd_X8_spentBy l0 l1 m = some z) : ab_Met l g yX8_spentBy cX8_spentBy 2 (some .long) [] d [.ref l0, .int l1] m (.inl (some (.long z.1))) z.2 := by
  obtain ⟨d2, rfl⟩ : ∃ d2, d = d2 + 1 := ⟨d - 1, by omega⟩
  exact ab_of hl0 (by decide +kernel) (Nat.le_of_ble_eq_true rfl) (fun q => by cases q) rfl (te_X8_spentBy hl0 hd _ _ _ _ h)
theorem tbb_X8_isOver_28 {l : Launch} {g : ab_G} (hl0 : l.stackTraces = false) {d2 : Nat} (hd : 2 ≤ d2 + 1)   (s0 : Int32) (m0 : ab_Mm) (z : (Int32 × ab_Mm)) (h : bb_X8_isOver_28  s0 m0 = some z) : ab_W l g cX8_isOver RX8 3 (some .boolean) [] false (d2 + 1) (.inl (some (.int z.1))) z.2 28 [] [.int s0] m0 := by
  unfold bb_X8_isOver_28 at h
  rcases ab_iff h with ⟨hc, h⟩ | ⟨hc, h⟩
  · cases h
  cases h
  exact ru_ret (v := some (.int _)) ⟨_, rfl, congrArg Value.int (Classical.not_not.mp hc), dX8_isOver_28⟩
theorem te_X8_isOver {l : Launch} {g : ab_G} (hl0 : l.stackTraces = false) {d2 : Nat} (hd : 2 ≤ d2 + 1)   (l0 : Nat) (l1 : Nat) (l2 : Int32) (m0 : ab_Mm) (z : (Int32 × ab_Mm)) (h : dd_X8_isOver  l0 l1 l2 m0 = some z) : ab_W l g cX8_isOver RX8 3 (some .boolean) [] false (d2 + 1) (.inl (some (.int z.1))) z.2 0 [(0, .ref l0), (1, .ref l1), (2, .int l2)] [] m0 := by
  unfold dd_X8_isOver at h
  refine ru_aload_n (i := 0) dX8_isOver_0 rfl rfl <| ru_iload_n (i := 2) dX8_isOver_1 rfl rfl <| ?_
  obtain ⟨_, hrc, h⟩ := Option.bind_eq_some_iff.mp h
  obtain ⟨q1, hq1, h⟩ := Option.bind_eq_some_iff.mp h
  refine ru_callV (tm_X8_spentBy hl0 (by omega) hq1) dX8_isOver_2 rfl pm_X8_82 mf_X8_spentBy (ab_rcv_of hrc rfl) rfl rfl (Nat.le_of_ble_eq_true rfl) ?_
  refine ru_ldc2_w dX8_isOver_5 pk_X8_86 <| ru_aload_n (i := 1) dX8_isOver_8 rfl rfl <| ?_
  refine ru_getR h dX8_isOver_9 lk_X8_88 ?_
  intro v2 h
  refine ru_iload_n (i := 2) dX8_isOver_12 rfl rfl <| ru_iconst dX8_isOver_13 kc_i_0 <| ?_
  obtain ⟨_, hrc, h⟩ := Option.bind_eq_some_iff.mp h
  obtain ⟨q3, hq3, h⟩ := Option.bind_eq_some_iff.mp h
  refine ru_callV (tm_X10_get hl0 (by omega) hq3) dX8_isOver_14 rfl pm_X8_79 mf_X10_get (ab_rcv_of hrc rfl) rfl rfl (Nat.le_of_ble_eq_true rfl) ?_
  refine ru_i2l dX8_isOver_17 <| ru_lmul dX8_isOver_18 <| ru_lcmp dX8_isOver_19 <| ?_
  refine ru_if_le (tgt := 27) dX8_isOver_20 (by decide) (fun hc => ?_) (fun hc => ?_)
  · rw [if_pos hc] at h
    refine ru_iconst dX8_isOver_27 kc_i_0 <| ?_
    exact ru_pick [] rfl (tbb_X8_isOver_28 hl0 hd   _ _ _ h)
  · rw [if_neg hc] at h
    refine ru_iconst dX8_isOver_23 kc_i_1 <| ru_goto (tgt := 28) dX8_isOver_24 (by decide) <| ?_
    exact ru_pick [] rfl (tbb_X8_isOver_28 hl0 hd   _ _ _ h)
theorem tm_X8_isOver {l : Launch} {g : ab_G} (hl0 : l.stackTraces = false) {d : Nat} (hd : 2 ≤ d) {l0 : Nat} {l1 : Nat} {l2 : Int32} {m : ab_Mm} {z : (Int32 × ab_Mm)} (h : dd_X8_isOver l0 l1 l2 m = some z) : ab_Met l g yX8_isOver cX8_isOver 3 (some .boolean) [] d [.ref l0, .ref l1, .int l2] m (.inl (some (.int z.1))) z.2 := by
  obtain ⟨d2, rfl⟩ : ∃ d2, d = d2 + 1 := ⟨d - 1, by omega⟩
  exact ab_of hl0 (by decide +kernel) (Nat.le_of_ble_eq_true rfl) (fun q => by cases q) rfl (te_X8_isOver hl0 hd _ _ _ _ _ h)
theorem tbb_X8_fits_43 {l : Launch} {g : ab_G} (hl0 : l.stackTraces = false) {d2 : Nat} (hd : 3 ≤ d2 + 1)   (s0 : Int32) (m0 : ab_Mm) (z : (Int32 × ab_Mm)) (h : bb_X8_fits_43  s0 m0 = some z) : ab_W l g cX8_fits RX8 4 (some .boolean) [] false (d2 + 1) (.inl (some (.int z.1))) z.2 43 [] [.int s0] m0 := by
  unfold bb_X8_fits_43 at h
  rcases ab_iff h with ⟨hc, h⟩ | ⟨hc, h⟩
  · cases h
  cases h
  exact ru_ret (v := some (.int _)) ⟨_, rfl, congrArg Value.int (Classical.not_not.mp hc), dX8_fits_43⟩
theorem tbb_X8_fits_42 {l : Launch} {g : ab_G} (hl0 : l.stackTraces = false) {d2 : Nat} (hd : 3 ≤ d2 + 1)    (m0 : ab_Mm) (z : (Int32 × ab_Mm)) (h : bb_X8_fits_42   m0 = some z) : ab_W l g cX8_fits RX8 4 (some .boolean) [] false (d2 + 1) (.inl (some (.int z.1))) z.2 42 [] [] m0 := by
  unfold bb_X8_fits_42 at h
  refine ru_iconst dX8_fits_42 kc_i_0 <| ?_
  exact ru_pick [] rfl (tbb_X8_fits_43 hl0 hd   _ _ _ h)
theorem te_X8_fits {l : Launch} {g : ab_G} (hl0 : l.stackTraces = false) {d2 : Nat} (hd : 3 ≤ d2 + 1)   (l0 : Nat) (l1 : Nat) (l2 : Int32) (l3 : Int32) (m0 : ab_Mm) (z : (Int32 × ab_Mm)) (h : dd_X8_fits  l0 l1 l2 l3 m0 = some z) : ab_W l g cX8_fits RX8 4 (some .boolean) [] false (d2 + 1) (.inl (some (.int z.1))) z.2 0 [(0, .ref l0), (1, .ref l1), (2, .int l2), (3, .int l3)] [] m0 := by
  unfold dd_X8_fits at h
  refine ru_aload_n (i := 1) dX8_fits_0 rfl rfl <| ?_
  refine ru_getR h dX8_fits_1 lk_X8_96 ?_
  intro v1 h
  refine ru_iload_n (i := 2) dX8_fits_4 rfl rfl <| ru_iconst dX8_fits_5 kc_i_0 <| ?_
  obtain ⟨_, hrc, h⟩ := Option.bind_eq_some_iff.mp h
  obtain ⟨q2, hq2, h⟩ := Option.bind_eq_some_iff.mp h
  refine ru_callV (tm_X10_get hl0 (by omega) hq2) dX8_fits_6 rfl pm_X8_79 mf_X10_get (ab_rcv_of hrc rfl) rfl rfl (Nat.le_of_ble_eq_true rfl) ?_
  refine ru_aload_n (i := 0) dX8_fits_9 rfl rfl <| ru_aload_n (i := 1) dX8_fits_10 rfl rfl <| ru_iload_n (i := 3) dX8_fits_11 rfl rfl <| ru_iconst dX8_fits_12 kc_i_0 <| ?_
  obtain ⟨_, hrc, h⟩ := Option.bind_eq_some_iff.mp h
  obtain ⟨q3, hq3, h⟩ := Option.bind_eq_some_iff.mp h
  refine ru_callV (tm_X8_left hl0 (by omega) hq3) dX8_fits_13 rfl pm_X8_99 mf_X8_left (ab_rcv_of hrc rfl) rfl rfl (Nat.le_of_ble_eq_true rfl) ?_
  refine ru_icmp_gt (tgt := 42) dX8_fits_16 (by decide) (fun hc => ?_) (fun hc => ?_)
  · rw [if_pos hc] at h
    exact ru_pick [] rfl (tbb_X8_fits_42 hl0 hd    _ _ h)
  · rw [if_neg hc] at h
    refine ru_aload_n (i := 1) dX8_fits_19 rfl rfl <| ?_
    refine ru_getR h dX8_fits_20 lk_X8_96 ?_
    intro v4 h
    refine ru_iload_n (i := 2) dX8_fits_23 rfl rfl <| ru_iconst dX8_fits_24 kc_i_1 <| ?_
    obtain ⟨_, hrc, h⟩ := Option.bind_eq_some_iff.mp h
    obtain ⟨q5, hq5, h⟩ := Option.bind_eq_some_iff.mp h
    refine ru_callV (tm_X10_get hl0 (by omega) hq5) dX8_fits_25 rfl pm_X8_79 mf_X10_get (ab_rcv_of hrc rfl) rfl rfl (Nat.le_of_ble_eq_true rfl) ?_
    refine ru_aload_n (i := 0) dX8_fits_28 rfl rfl <| ru_aload_n (i := 1) dX8_fits_29 rfl rfl <| ru_iload_n (i := 3) dX8_fits_30 rfl rfl <| ru_iconst dX8_fits_31 kc_i_1 <| ?_
    obtain ⟨_, hrc, h⟩ := Option.bind_eq_some_iff.mp h
    obtain ⟨q6, hq6, h⟩ := Option.bind_eq_some_iff.mp h
    refine ru_callV (tm_X8_left hl0 (by omega) hq6) dX8_fits_32 rfl pm_X8_99 mf_X8_left (ab_rcv_of hrc rfl) rfl rfl (Nat.le_of_ble_eq_true rfl) ?_
    refine ru_icmp_gt (tgt := 42) dX8_fits_35 (by decide) (fun hc => ?_) (fun hc => ?_)
    · rw [if_pos hc] at h
      exact ru_pick [] rfl (tbb_X8_fits_42 hl0 hd    _ _ h)
    · rw [if_neg hc] at h
      refine ru_iconst dX8_fits_38 kc_i_1 <| ru_goto (tgt := 43) dX8_fits_39 (by decide) <| ?_
      exact ru_pick [] rfl (tbb_X8_fits_43 hl0 hd   _ _ _ h)
theorem tm_X8_fits {l : Launch} {g : ab_G} (hl0 : l.stackTraces = false) {d : Nat} (hd : 3 ≤ d) {l0 : Nat} {l1 : Nat} {l2 : Int32} {l3 : Int32} {m : ab_Mm} {z : (Int32 × ab_Mm)} (h : dd_X8_fits l0 l1 l2 l3 m = some z) : ab_Met l g yX8_fits cX8_fits 4 (some .boolean) [] d [.ref l0, .ref l1, .int l2, .int l3] m (.inl (some (.int z.1))) z.2 := by
  obtain ⟨d2, rfl⟩ : ∃ d2, d = d2 + 1 := ⟨d - 1, by omega⟩
  exact ab_of hl0 (by decide +kernel) (Nat.le_of_ble_eq_true rfl) (fun q => by cases q) rfl (te_X8_fits hl0 hd _ _ _ _ _ _ h)
theorem tbb_X8_tightestHost_69 {l : Launch} {g : ab_G} (hl0 : l.stackTraces = false) {d2 : Nat} (hd : 4 ≤ d2 + 1) (r8 : Nat → Nat → Int32 → Int32 → Int32 → Int32 → ab_Mm → Option (Int32 × ab_Mm)) (hr8 : ∀ (l0 : Nat) (l1 : Nat) (l2 : Int32) (l3 : Int32) (l4 : Int32) (l5 : Int32) (m : ab_Mm) (z : (Int32 × ab_Mm)), r8 l0 l1 l2 l3 l4 l5 m = some z → ab_W l g cX8_tightestHost RX8 7 (some .int) [] false (d2 + 1) (.inl (some (.int z.1))) z.2 8 [(0, .ref l0), (1, .ref l1), (2, .int l2), (3, .int l3), (4, .int l4), (5, .int l5)] [] m) (l0 : Nat) (l1 : Nat) (l2 : Int32) (l3 : Int32) (l4 : Int32) (l5 : Int32) (m0 : ab_Mm) (z : (Int32 × ab_Mm)) (h : bb_X8_tightestHost_69 r8 l0 l1 l2 l3 l4 l5 m0 = some z) : ab_W l g cX8_tightestHost RX8 7 (some .int) [] false (d2 + 1) (.inl (some (.int z.1))) z.2 69 [(0, .ref l0), (1, .ref l1), (2, .int l2), (3, .int l3), (4, .int l4), (5, .int l5)] [] m0 := by
  unfold bb_X8_tightestHost_69 at h
  refine ru_iinc dX8_tightestHost_69 (by decide) rfl (ab_inc kc_i_1) <| ru_goto (tgt := 8) dX8_tightestHost_72 (by decide) <| ?_
  exact ru_pick [0, 1, 2, 3, 4, 5] rfl (hr8 _ _ _ _ _ _ _ _ h)
theorem tbb_X8_tightestHost_62 {l : Launch} {g : ab_G} (hl0 : l.stackTraces = false) {d2 : Nat} (hd : 4 ≤ d2 + 1) (r8 : Nat → Nat → Int32 → Int32 → Int32 → Int32 → ab_Mm → Option (Int32 × ab_Mm)) (hr8 : ∀ (l0 : Nat) (l1 : Nat) (l2 : Int32) (l3 : Int32) (l4 : Int32) (l5 : Int32) (m : ab_Mm) (z : (Int32 × ab_Mm)), r8 l0 l1 l2 l3 l4 l5 m = some z → ab_W l g cX8_tightestHost RX8 7 (some .int) [] false (d2 + 1) (.inl (some (.int z.1))) z.2 8 [(0, .ref l0), (1, .ref l1), (2, .int l2), (3, .int l3), (4, .int l4), (5, .int l5)] [] m) (l0 : Nat) (l1 : Nat) (l2 : Int32) (l5 : Int32) (l6 : Int32) (m0 : ab_Mm) (z : (Int32 × ab_Mm)) (h : bb_X8_tightestHost_62 r8 l0 l1 l2 l5 l6 m0 = some z) : ab_W l g cX8_tightestHost RX8 7 (some .int) [] false (d2 + 1) (.inl (some (.int z.1))) z.2 62 [(0, .ref l0), (1, .ref l1), (2, .int l2), (5, .int l5), (6, .int l6)] [] m0 := by
  unfold bb_X8_tightestHost_62 at h
  refine ru_iload dX8_tightestHost_62 rfl <| ru_istore_n (i := 3) dX8_tightestHost_64 rfl (by decide) <| ru_iload dX8_tightestHost_65 rfl <| ru_istore dX8_tightestHost_67 (by decide) <| ?_
  exact ru_pick [0, 1, 2, 3, 4, 5] rfl (tbb_X8_tightestHost_69 hl0 hd _ hr8 _ _ _ _ _ _ _ _ h)
theorem tbb_X8_tightestHost_8 {l : Launch} {g : ab_G} (hl0 : l.stackTraces = false) {d2 : Nat} (hd : 4 ≤ d2 + 1)   : ∀ (n : Nat) (l0 : Nat) (l1 : Nat) (l2 : Int32) (l3 : Int32) (l4 : Int32) (l5 : Int32) (m0 : ab_Mm) (z : (Int32 × ab_Mm)), bb_X8_tightestHost_8  n l0 l1 l2 l3 l4 l5 m0 = some z → ab_W l g cX8_tightestHost RX8 7 (some .int) [] false (d2 + 1) (.inl (some (.int z.1))) z.2 8 [(0, .ref l0), (1, .ref l1), (2, .int l2), (3, .int l3), (4, .int l4), (5, .int l5)] [] m0 := by
  intro n
  induction n with
  | zero => intro l0 l1 l2 l3 l4 l5 m0 z h; cases h
  | succ n ih =>
    intro l0 l1 l2 l3 l4 l5 m0 z h
    rw [bb_X8_tightestHost_8] at h
    refine ru_iload dX8_tightestHost_8 rfl <| ru_aload_n (i := 1) dX8_tightestHost_10 rfl rfl <| ?_
    refine ru_getR h dX8_tightestHost_11 lk_X8_93 ?_
    intro v1 h
    refine ru_getI h dX8_tightestHost_14 lk_X8_103 ?_
    intro v2 h
    refine ru_icmp_ge (tgt := 75) dX8_tightestHost_17 (by decide) (fun hc => ?_) (fun hc => ?_)
    · rw [if_pos hc] at h
      refine ru_iload_n (i := 3) dX8_tightestHost_75 rfl rfl <| ?_
      cases h
      exact ru_ret (v := some (.int _)) ⟨_, rfl, rfl, dX8_tightestHost_76⟩
    · rw [if_neg hc] at h
      refine ru_aload_n (i := 0) dX8_tightestHost_20 rfl rfl <| ru_aload_n (i := 1) dX8_tightestHost_21 rfl rfl <| ru_iload_n (i := 2) dX8_tightestHost_22 rfl rfl <| ru_iload dX8_tightestHost_23 rfl <| ?_
      obtain ⟨_, hrc, h⟩ := Option.bind_eq_some_iff.mp h
      obtain ⟨q3, hq3, h⟩ := Option.bind_eq_some_iff.mp h
      refine ru_callV (tm_X8_fits hl0 (by omega) hq3) dX8_tightestHost_25 rfl pm_X8_106 mf_X8_fits (ab_rcv_of hrc rfl) rfl rfl (Nat.le_of_ble_eq_true rfl) ?_
      refine ru_if_eq (tgt := 69) dX8_tightestHost_28 (by decide) (fun hc => ?_) (fun hc => ?_)
      · rw [if_pos hc] at h
        exact ru_pick [0, 1, 2, 3, 4, 5] rfl (tbb_X8_tightestHost_69 hl0 hd _ ih _ _ _ _ _ _ _ _ h)
      · rw [if_neg hc] at h
        refine ru_aload_n (i := 0) dX8_tightestHost_31 rfl rfl <| ru_aload_n (i := 1) dX8_tightestHost_32 rfl rfl <| ru_iload dX8_tightestHost_33 rfl <| ru_iconst dX8_tightestHost_35 kc_i_0 <| ?_
        obtain ⟨_, hrc, h⟩ := Option.bind_eq_some_iff.mp h
        obtain ⟨q4, hq4, h⟩ := Option.bind_eq_some_iff.mp h
        refine ru_callV (tm_X8_left hl0 (by omega) hq4) dX8_tightestHost_36 rfl pm_X8_99 mf_X8_left (ab_rcv_of hrc rfl) rfl rfl (Nat.le_of_ble_eq_true rfl) ?_
        refine ru_aload_n (i := 0) dX8_tightestHost_39 rfl rfl <| ru_aload_n (i := 1) dX8_tightestHost_40 rfl rfl <| ru_iload dX8_tightestHost_41 rfl <| ru_iconst dX8_tightestHost_43 kc_i_1 <| ?_
        obtain ⟨_, hrc, h⟩ := Option.bind_eq_some_iff.mp h
        obtain ⟨q5, hq5, h⟩ := Option.bind_eq_some_iff.mp h
        refine ru_callV (tm_X8_left hl0 (by omega) hq5) dX8_tightestHost_44 rfl pm_X8_99 mf_X8_left (ab_rcv_of hrc rfl) rfl rfl (Nat.le_of_ble_eq_true rfl) ?_
        refine ru_iadd dX8_tightestHost_47 <| ru_istore dX8_tightestHost_48 (by decide) <| ru_iload_n (i := 3) dX8_tightestHost_50 rfl rfl <| ru_iconst dX8_tightestHost_51 kc_i_m1 <| ?_
        refine ru_icmp_eq (tgt := 62) dX8_tightestHost_52 (by decide) (fun hc => ?_) (fun hc => ?_)
        · rw [if_pos hc] at h
          exact ru_pick [0, 1, 2, 5, 6] rfl (tbb_X8_tightestHost_62 hl0 hd _ ih _ _ _ _ _ _ _ h)
        · rw [if_neg hc] at h
          refine ru_iload dX8_tightestHost_55 rfl <| ru_iload dX8_tightestHost_57 rfl <| ?_
          refine ru_icmp_ge (tgt := 69) dX8_tightestHost_59 (by decide) (fun hc => ?_) (fun hc => ?_)
          · rw [if_pos hc] at h
            exact ru_pick [0, 1, 2, 3, 4, 5] rfl (tbb_X8_tightestHost_69 hl0 hd _ ih _ _ _ _ _ _ _ _ h)
          · rw [if_neg hc] at h
            exact ru_pick [0, 1, 2, 5, 6] rfl (tbb_X8_tightestHost_62 hl0 hd _ ih _ _ _ _ _ _ _ h)
theorem te_X8_tightestHost {l : Launch} {g : ab_G} (hl0 : l.stackTraces = false) {d2 : Nat} (hd : 4 ≤ d2 + 1)   (l0 : Nat) (l1 : Nat) (l2 : Int32) (m0 : ab_Mm) (z : (Int32 × ab_Mm)) (h : dd_X8_tightestHost  l0 l1 l2 m0 = some z) : ab_W l g cX8_tightestHost RX8 7 (some .int) [] false (d2 + 1) (.inl (some (.int z.1))) z.2 0 [(0, .ref l0), (1, .ref l1), (2, .int l2)] [] m0 := by
  unfold dd_X8_tightestHost at h
  refine ru_iconst dX8_tightestHost_0 kc_i_m1 <| ru_istore_n (i := 3) dX8_tightestHost_1 rfl (by decide) <| ru_iconst dX8_tightestHost_2 kc_i_0 <| ru_istore dX8_tightestHost_3 (by decide) <| ru_iconst dX8_tightestHost_5 kc_i_0 <| ru_istore dX8_tightestHost_6 (by decide) <| ?_
  exact ru_pick [0, 1, 2, 3, 4, 5] rfl (tbb_X8_tightestHost_8 hl0 hd   _ _ _ _ _ _ _ _ _ h)
theorem tm_X8_tightestHost {l : Launch} {g : ab_G} (hl0 : l.stackTraces = false) {d : Nat} (hd : 4 ≤ d) {l0 : Nat} {l1 : Nat} {l2 : Int32} {m : ab_Mm} {z : (Int32 × ab_Mm)} (h : dd_X8_tightestHost l0 l1 l2 m = some z) : ab_Met l g yX8_tightestHost cX8_tightestHost 7 (some .int) [] d [.ref l0, .ref l1, .int l2] m (.inl (some (.int z.1))) z.2 := by
  obtain ⟨d2, rfl⟩ : ∃ d2, d = d2 + 1 := ⟨d - 1, by omega⟩
  exact ab_of hl0 (by decide +kernel) (Nat.le_of_ble_eq_true rfl) (fun q => by cases q) rfl (te_X8_tightestHost hl0 hd _ _ _ _ _ h)
theorem tbb_X8_roomOn_32 {l : Launch} {g : ab_G} (hl0 : l.stackTraces = false) {d2 : Nat} (hd : 3 ≤ d2 + 1)    (m0 : ab_Mm) (z : (Int32 × ab_Mm)) (h : bb_X8_roomOn_32   m0 = some z) : ab_W l g cX8_roomOn RX8 6 (some .int) [] false (d2 + 1) (.inl (some (.int z.1))) z.2 32 [] [] m0 := by
  unfold bb_X8_roomOn_32 at h
  refine ru_iconst dX8_roomOn_32 kc_i_0 <| ?_
  cases h
  exact ru_ret (v := some (.int _)) ⟨_, rfl, rfl, dX8_roomOn_33⟩
theorem te_X8_roomOn {l : Launch} {g : ab_G} (hl0 : l.stackTraces = false) {d2 : Nat} (hd : 3 ≤ d2 + 1)   (l0 : Nat) (l1 : Nat) (l2 : Int32) (l3 : Int32) (m0 : ab_Mm) (z : (Int32 × ab_Mm)) (h : dd_X8_roomOn  l0 l1 l2 l3 m0 = some z) : ab_W l g cX8_roomOn RX8 6 (some .int) [] false (d2 + 1) (.inl (some (.int z.1))) z.2 0 [(0, .ref l0), (1, .ref l1), (2, .int l2), (3, .int l3)] [] m0 := by
  unfold dd_X8_roomOn at h
  refine ru_aload_n (i := 1) dX8_roomOn_0 rfl rfl <| ?_
  refine ru_getR h dX8_roomOn_1 lk_X8_96 ?_
  intro v1 h
  refine ru_iload_n (i := 3) dX8_roomOn_4 rfl rfl <| ru_iconst dX8_roomOn_5 kc_i_0 <| ?_
  obtain ⟨_, hrc, h⟩ := Option.bind_eq_some_iff.mp h
  obtain ⟨q2, hq2, h⟩ := Option.bind_eq_some_iff.mp h
  refine ru_callV (tm_X10_get hl0 (by omega) hq2) dX8_roomOn_6 rfl pm_X8_79 mf_X10_get (ab_rcv_of hrc rfl) rfl rfl (Nat.le_of_ble_eq_true rfl) ?_
  refine ru_istore dX8_roomOn_9 (by decide) <| ru_aload_n (i := 1) dX8_roomOn_11 rfl rfl <| ?_
  refine ru_getR h dX8_roomOn_12 lk_X8_96 ?_
  intro v3 h
  refine ru_iload_n (i := 3) dX8_roomOn_15 rfl rfl <| ru_iconst dX8_roomOn_16 kc_i_1 <| ?_
  obtain ⟨_, hrc, h⟩ := Option.bind_eq_some_iff.mp h
  obtain ⟨q4, hq4, h⟩ := Option.bind_eq_some_iff.mp h
  refine ru_callV (tm_X10_get hl0 (by omega) hq4) dX8_roomOn_17 rfl pm_X8_79 mf_X10_get (ab_rcv_of hrc rfl) rfl rfl (Nat.le_of_ble_eq_true rfl) ?_
  refine ru_istore dX8_roomOn_20 (by decide) <| ru_iload dX8_roomOn_22 rfl <| ?_
  refine ru_if_le (tgt := 32) dX8_roomOn_24 (by decide) (fun hc => ?_) (fun hc => ?_)
  · rw [if_pos hc] at h
    exact ru_pick [] rfl (tbb_X8_roomOn_32 hl0 hd    _ _ h)
  · rw [if_neg hc] at h
    refine ru_iload dX8_roomOn_27 rfl <| ?_
    refine ru_if_gt (tgt := 34) dX8_roomOn_29 (by decide) (fun hc => ?_) (fun hc => ?_)
    · rw [if_pos hc] at h
      refine ru_aload_n (i := 0) dX8_roomOn_34 rfl rfl <| ru_aload_n (i := 1) dX8_roomOn_35 rfl rfl <| ru_iload_n (i := 2) dX8_roomOn_36 rfl rfl <| ru_iconst dX8_roomOn_37 kc_i_0 <| ?_
      obtain ⟨_, hrc, h⟩ := Option.bind_eq_some_iff.mp h
      obtain ⟨q5, hq5, h⟩ := Option.bind_eq_some_iff.mp h
      refine ru_callV (tm_X8_left hl0 (by omega) hq5) dX8_roomOn_38 rfl pm_X8_99 mf_X8_left (ab_rcv_of hrc rfl) rfl rfl (Nat.le_of_ble_eq_true rfl) ?_
      refine ru_iload dX8_roomOn_41 rfl <| ?_
      rcases ab_iff h with ⟨hc, h⟩ | ⟨hc, h⟩
      · cases h
      refine ru_idiv dX8_roomOn_43 hc ?_
      refine ru_aload_n (i := 0) dX8_roomOn_44 rfl rfl <| ru_aload_n (i := 1) dX8_roomOn_45 rfl rfl <| ru_iload_n (i := 2) dX8_roomOn_46 rfl rfl <| ru_iconst dX8_roomOn_47 kc_i_1 <| ?_
      obtain ⟨_, hrc, h⟩ := Option.bind_eq_some_iff.mp h
      obtain ⟨q6, hq6, h⟩ := Option.bind_eq_some_iff.mp h
      refine ru_callV (tm_X8_left hl0 (by omega) hq6) dX8_roomOn_48 rfl pm_X8_99 mf_X8_left (ab_rcv_of hrc rfl) rfl rfl (Nat.le_of_ble_eq_true rfl) ?_
      refine ru_iload dX8_roomOn_51 rfl <| ?_
      rcases ab_iff h with ⟨hc, h⟩ | ⟨hc, h⟩
      · cases h
      refine ru_idiv dX8_roomOn_53 hc ?_
      refine ru_mmin dX8_roomOn_54 ⟨pm_X8_57, pq_min_s, pq_ini, pq_min_c⟩ (Nat.le_of_ble_eq_true rfl) <| ?_
      cases h
      exact ru_ret (v := some (.int _)) ⟨_, rfl, rfl, dX8_roomOn_57⟩
    · rw [if_neg hc] at h
      exact ru_pick [] rfl (tbb_X8_roomOn_32 hl0 hd    _ _ h)
theorem tm_X8_roomOn {l : Launch} {g : ab_G} (hl0 : l.stackTraces = false) {d : Nat} (hd : 3 ≤ d) {l0 : Nat} {l1 : Nat} {l2 : Int32} {l3 : Int32} {m : ab_Mm} {z : (Int32 × ab_Mm)} (h : dd_X8_roomOn l0 l1 l2 l3 m = some z) : ab_Met l g yX8_roomOn cX8_roomOn 6 (some .int) [] d [.ref l0, .ref l1, .int l2, .int l3] m (.inl (some (.int z.1))) z.2 := by
  obtain ⟨d2, rfl⟩ : ∃ d2, d = d2 + 1 := ⟨d - 1, by omega⟩
  exact ab_of hl0 (by decide +kernel) (Nat.le_of_ble_eq_true rfl) (fun q => by cases q) rfl (te_X8_roomOn hl0 hd _ _ _ _ _ _ h)
theorem tbb_X8_lowestFree_22 {l : Launch} {g : ab_G} (hl0 : l.stackTraces = false) {d2 : Nat} (hd : 2 ≤ d2 + 1)   (l1 : Int32) (m0 : ab_Mm) (z : (Int32 × ab_Mm)) (h : bb_X8_lowestFree_22  l1 m0 = some z) : ab_W l g cX8_lowestFree RX8 2 (some .int) [] false (d2 + 1) (.inl (some (.int z.1))) z.2 22 [(1, .int l1)] [] m0 := by
  unfold bb_X8_lowestFree_22 at h
  refine ru_iload_n (i := 1) dX8_lowestFree_22 rfl rfl <| ?_
  cases h
  exact ru_ret (v := some (.int _)) ⟨_, rfl, rfl, dX8_lowestFree_23⟩
theorem tbb_X8_lowestFree_2 {l : Launch} {g : ab_G} (hl0 : l.stackTraces = false) {d2 : Nat} (hd : 2 ≤ d2 + 1)   : ∀ (n : Nat) (l0 : Nat) (l1 : Int32) (m0 : ab_Mm) (z : (Int32 × ab_Mm)), bb_X8_lowestFree_2  n l0 l1 m0 = some z → ab_W l g cX8_lowestFree RX8 2 (some .int) [] false (d2 + 1) (.inl (some (.int z.1))) z.2 2 [(0, .ref l0), (1, .int l1)] [] m0 := by
  intro n
  induction n with
  | zero => intro l0 l1 m0 z h; cases h
  | succ n ih =>
    intro l0 l1 m0 z h
    rw [bb_X8_lowestFree_2] at h
    refine ru_iload_n (i := 1) dX8_lowestFree_2 rfl rfl <| ru_bipush dX8_lowestFree_3 kc_b_11 <| ?_
    refine ru_icmp_ge (tgt := 22) dX8_lowestFree_5 (by decide) (fun hc => ?_) (fun hc => ?_)
    · rw [if_pos hc] at h
      exact ru_pick [1] rfl (tbb_X8_lowestFree_22 hl0 hd   _ _ _ h)
    · rw [if_neg hc] at h
      refine ru_aload_n (i := 0) dX8_lowestFree_8 rfl rfl <| ru_iload_n (i := 1) dX8_lowestFree_9 rfl rfl <| ?_
      obtain ⟨_, hrc, h⟩ := Option.bind_eq_some_iff.mp h
      obtain ⟨q1, hq1, h⟩ := Option.bind_eq_some_iff.mp h
      refine ru_callV (tm_X8_runs hl0 (by omega) hq1) dX8_lowestFree_10 rfl pm_X8_75 mf_X8_runs (ab_rcv_of hrc rfl) rfl rfl (Nat.le_of_ble_eq_true rfl) ?_
      refine ru_if_eq (tgt := 22) dX8_lowestFree_13 (by decide) (fun hc => ?_) (fun hc => ?_)
      · rw [if_pos hc] at h
        exact ru_pick [1] rfl (tbb_X8_lowestFree_22 hl0 hd   _ _ _ h)
      · rw [if_neg hc] at h
        refine ru_iinc dX8_lowestFree_16 (by decide) rfl (ab_inc kc_i_1) <| ru_goto (tgt := 2) dX8_lowestFree_19 (by decide) <| ?_
        exact ru_pick [0, 1] rfl (ih _ _ _ _ h)
theorem te_X8_lowestFree {l : Launch} {g : ab_G} (hl0 : l.stackTraces = false) {d2 : Nat} (hd : 2 ≤ d2 + 1)   (l0 : Nat) (m0 : ab_Mm) (z : (Int32 × ab_Mm)) (h : dd_X8_lowestFree  l0 m0 = some z) : ab_W l g cX8_lowestFree RX8 2 (some .int) [] false (d2 + 1) (.inl (some (.int z.1))) z.2 0 [(0, .ref l0)] [] m0 := by
  unfold dd_X8_lowestFree at h
  refine ru_iconst dX8_lowestFree_0 kc_i_0 <| ru_istore_n (i := 1) dX8_lowestFree_1 rfl (by decide) <| ?_
  exact ru_pick [0, 1] rfl (tbb_X8_lowestFree_2 hl0 hd   _ _ _ _ _ h)
theorem tm_X8_lowestFree {l : Launch} {g : ab_G} (hl0 : l.stackTraces = false) {d : Nat} (hd : 2 ≤ d) {l0 : Nat} {m : ab_Mm} {z : (Int32 × ab_Mm)} (h : dd_X8_lowestFree l0 m = some z) : ab_Met l g yX8_lowestFree cX8_lowestFree 2 (some .int) [] d [.ref l0] m (.inl (some (.int z.1))) z.2 := by
  obtain ⟨d2, rfl⟩ : ∃ d2, d = d2 + 1 := ⟨d - 1, by omega⟩
  exact ab_of hl0 (by decide +kernel) (Nat.le_of_ble_eq_true rfl) (fun q => by cases q) rfl (te_X8_lowestFree hl0 hd _ _ _ h)
theorem te_X8_start {l : Launch} {g : ab_G} (hl0 : l.stackTraces = false) {d2 : Nat} (hd : 4 ≤ d2 + 1)   (l0 : Nat) (l1 : Nat) (l2 : Int32) (l3 : Int32) (l4 : Int32) (l5 : Int32) (m0 : ab_Mm) (z : (Int32 × ab_Mm)) (h : dd_X8_start  l0 l1 l2 l3 l4 l5 m0 = some z) : ab_W l g cX8_start RX8 7 (some .int) [] false (d2 + 1) (.inl (some (.int z.1))) z.2 0 [(0, .ref l0), (1, .ref l1), (2, .int l2), (3, .int l3), (4, .int l4), (5, .int l5)] [] m0 := by
  unfold dd_X8_start at h
  refine ru_aload_n (i := 0) dX8_start_0 rfl rfl <| ?_
  obtain ⟨_, hrc, h⟩ := Option.bind_eq_some_iff.mp h
  obtain ⟨q1, hq1, h⟩ := Option.bind_eq_some_iff.mp h
  refine ru_callV (tm_X8_lowestFree hl0 (by omega) hq1) dX8_start_1 rfl pm_X8_123 mf_X8_lowestFree (ab_rcv_of hrc rfl) rfl rfl (Nat.le_of_ble_eq_true rfl) ?_
  refine ru_istore dX8_start_4 (by decide) <| ru_aload_n (i := 0) dX8_start_6 rfl rfl <| ru_dup dX8_start_7 rfl <| ?_
  refine ru_getI h dX8_start_8 lk_X8_15 ?_
  intro v2 h
  refine ru_iconst dX8_start_11 kc_i_1 <| ru_iload dX8_start_12 rfl <| ru_ishl dX8_start_14 <| ru_ior dX8_start_15 <| ?_
  refine ru_putI h dX8_start_16 lk_X8_15 ?_
  intro m3 h
  refine ru_aload_n (i := 0) dX8_start_19 rfl rfl <| ?_
  refine ru_getR h dX8_start_20 lk_X8_23 ?_
  intro v4 h
  refine ru_iload dX8_start_23 rfl <| ru_iconst dX8_start_25 kc_i_0 <| ru_iload_n (i := 2) dX8_start_26 rfl rfl <| ?_
  obtain ⟨_, hrc, h⟩ := Option.bind_eq_some_iff.mp h
  obtain ⟨q5, hq5, h⟩ := Option.bind_eq_some_iff.mp h
  refine ru_callV (tm_X10_set hl0 (by omega) hq5) dX8_start_27 rfl pm_X8_127 mf_X10_set (ab_rcv_of hrc rfl) rfl rfl (Nat.le_of_ble_eq_true rfl) ?_
  refine ru_aload_n (i := 0) dX8_start_30 rfl rfl <| ?_
  refine ru_getR h dX8_start_31 lk_X8_23 ?_
  intro v6 h
  refine ru_iload dX8_start_34 rfl <| ru_iconst dX8_start_36 kc_i_1 <| ru_iload_n (i := 3) dX8_start_37 rfl rfl <| ?_
  obtain ⟨_, hrc, h⟩ := Option.bind_eq_some_iff.mp h
  obtain ⟨q7, hq7, h⟩ := Option.bind_eq_some_iff.mp h
  refine ru_callV (tm_X10_set hl0 (by omega) hq7) dX8_start_38 rfl pm_X8_127 mf_X10_set (ab_rcv_of hrc rfl) rfl rfl (Nat.le_of_ble_eq_true rfl) ?_
  refine ru_aload_n (i := 0) dX8_start_41 rfl rfl <| ?_
  refine ru_getR h dX8_start_42 lk_X8_23 ?_
  intro v8 h
  refine ru_iload dX8_start_45 rfl <| ru_iconst dX8_start_47 kc_i_2 <| ru_iload dX8_start_48 rfl <| ?_
  obtain ⟨_, hrc, h⟩ := Option.bind_eq_some_iff.mp h
  obtain ⟨q9, hq9, h⟩ := Option.bind_eq_some_iff.mp h
  refine ru_callV (tm_X10_set hl0 (by omega) hq9) dX8_start_50 rfl pm_X8_127 mf_X10_set (ab_rcv_of hrc rfl) rfl rfl (Nat.le_of_ble_eq_true rfl) ?_
  refine ru_aload_n (i := 0) dX8_start_53 rfl rfl <| ?_
  refine ru_getR h dX8_start_54 lk_X8_23 ?_
  intro v10 h
  refine ru_iload dX8_start_57 rfl <| ru_iconst dX8_start_59 kc_i_3 <| ru_iload dX8_start_60 rfl <| ?_
  obtain ⟨_, hrc, h⟩ := Option.bind_eq_some_iff.mp h
  obtain ⟨q11, hq11, h⟩ := Option.bind_eq_some_iff.mp h
  refine ru_callV (tm_X10_set hl0 (by omega) hq11) dX8_start_62 rfl pm_X8_127 mf_X10_set (ab_rcv_of hrc rfl) rfl rfl (Nat.le_of_ble_eq_true rfl) ?_
  refine ru_aload_n (i := 0) dX8_start_65 rfl rfl <| ?_
  refine ru_getR h dX8_start_66 lk_X8_23 ?_
  intro v12 h
  refine ru_iload dX8_start_69 rfl <| ru_iconst dX8_start_71 kc_i_4 <| ru_iconst dX8_start_72 kc_i_m1 <| ?_
  obtain ⟨_, hrc, h⟩ := Option.bind_eq_some_iff.mp h
  obtain ⟨q13, hq13, h⟩ := Option.bind_eq_some_iff.mp h
  refine ru_callV (tm_X10_set hl0 (by omega) hq13) dX8_start_73 rfl pm_X8_127 mf_X10_set (ab_rcv_of hrc rfl) rfl rfl (Nat.le_of_ble_eq_true rfl) ?_
  refine ru_aload_n (i := 0) dX8_start_76 rfl rfl <| ?_
  refine ru_getR h dX8_start_77 lk_X8_23 ?_
  intro v14 h
  refine ru_iload dX8_start_80 rfl <| ru_iconst dX8_start_82 kc_i_5 <| ru_aload_n (i := 0) dX8_start_83 rfl rfl <| ?_
  refine ru_getI h dX8_start_84 lk_X8_9 ?_
  intro v15 h
  obtain ⟨_, hrc, h⟩ := Option.bind_eq_some_iff.mp h
  obtain ⟨q16, hq16, h⟩ := Option.bind_eq_some_iff.mp h
  refine ru_callV (tm_X10_set hl0 (by omega) hq16) dX8_start_87 rfl pm_X8_127 mf_X10_set (ab_rcv_of hrc rfl) rfl rfl (Nat.le_of_ble_eq_true rfl) ?_
  refine ru_aload_n (i := 0) dX8_start_90 rfl rfl <| ru_aload_n (i := 1) dX8_start_91 rfl rfl <| ru_iload dX8_start_92 rfl <| ru_iconst dX8_start_94 kc_i_1 <| ?_
  obtain ⟨_, hrc, h⟩ := Option.bind_eq_some_iff.mp h
  obtain ⟨q17, hq17, h⟩ := Option.bind_eq_some_iff.mp h
  refine ru_callV (tm_X8_load hl0 (by omega) hq17) dX8_start_95 rfl pm_X8_130 mf_X8_load (ab_rcv_of hrc rfl) rfl rfl (Nat.le_of_ble_eq_true rfl) ?_
  refine ru_iload dX8_start_98 rfl <| ?_
  cases h
  exact ru_ret (v := some (.int _)) ⟨_, rfl, rfl, dX8_start_100⟩
theorem tm_X8_start {l : Launch} {g : ab_G} (hl0 : l.stackTraces = false) {d : Nat} (hd : 4 ≤ d) {l0 : Nat} {l1 : Nat} {l2 : Int32} {l3 : Int32} {l4 : Int32} {l5 : Int32} {m : ab_Mm} {z : (Int32 × ab_Mm)} (h : dd_X8_start l0 l1 l2 l3 l4 l5 m = some z) : ab_Met l g yX8_start cX8_start 7 (some .int) [] d [.ref l0, .ref l1, .int l2, .int l3, .int l4, .int l5] m (.inl (some (.int z.1))) z.2 := by
  obtain ⟨d2, rfl⟩ : ∃ d2, d = d2 + 1 := ⟨d - 1, by omega⟩
  exact ab_of hl0 (by decide +kernel) (Nat.le_of_ble_eq_true rfl) (fun q => by cases q) rfl (te_X8_start hl0 hd _ _ _ _ _ _ _ _ h)
theorem te_X8_end {l : Launch} {g : ab_G} (hl0 : l.stackTraces = false) {d2 : Nat} (hd : 4 ≤ d2 + 1)   (l0 : Nat) (l1 : Nat) (l2 : Int32) (m0 : ab_Mm) (z : (Unit × ab_Mm)) (h : dd_X8_end  l0 l1 l2 m0 = some z) : ab_W l g cX8_end RX8 3 none [] false (d2 + 1) (.inl none) z.2 0 [(0, .ref l0), (1, .ref l1), (2, .int l2)] [] m0 := by
  unfold dd_X8_end at h
  refine ru_aload_n (i := 0) dX8_end_0 rfl rfl <| ru_aload_n (i := 1) dX8_end_1 rfl rfl <| ru_iload_n (i := 2) dX8_end_2 rfl rfl <| ru_iconst dX8_end_3 kc_i_m1 <| ?_
  obtain ⟨_, hrc, h⟩ := Option.bind_eq_some_iff.mp h
  obtain ⟨q1, hq1, h⟩ := Option.bind_eq_some_iff.mp h
  refine ru_callV (tm_X8_load hl0 (by omega) hq1) dX8_end_4 rfl pm_X8_130 mf_X8_load (ab_rcv_of hrc rfl) rfl rfl (Nat.le_of_ble_eq_true rfl) ?_
  refine ru_aload_n (i := 0) dX8_end_7 rfl rfl <| ru_dup dX8_end_8 rfl <| ?_
  refine ru_getI h dX8_end_9 lk_X8_15 ?_
  intro v2 h
  refine ru_iconst dX8_end_12 kc_i_1 <| ru_iload_n (i := 2) dX8_end_13 rfl rfl <| ru_ishl dX8_end_14 <| ru_iconst dX8_end_15 kc_i_m1 <| ru_ixor dX8_end_16 <| ru_iand dX8_end_17 <| ?_
  refine ru_putI h dX8_end_18 lk_X8_15 ?_
  intro m3 h
  cases h
  exact ru_ret (v := none) ⟨rfl, dX8_end_21⟩
theorem tm_X8_end {l : Launch} {g : ab_G} (hl0 : l.stackTraces = false) {d : Nat} (hd : 4 ≤ d) {l0 : Nat} {l1 : Nat} {l2 : Int32} {m : ab_Mm} {z : (Unit × ab_Mm)} (h : dd_X8_end l0 l1 l2 m = some z) : ab_Met l g yX8_end cX8_end 3 none [] d [.ref l0, .ref l1, .int l2] m (.inl none) z.2 := by
  obtain ⟨d2, rfl⟩ : ∃ d2, d = d2 + 1 := ⟨d - 1, by omega⟩
  exact ab_of hl0 (by decide +kernel) (Nat.le_of_ble_eq_true rfl) (fun q => by cases q) rfl (te_X8_end hl0 hd _ _ _ _ _ h)
theorem te_X8_giveNotice {l : Launch} {g : ab_G} (hl0 : l.stackTraces = false) {d2 : Nat} (hd : 2 ≤ d2 + 1)   (l0 : Nat) (l1 : Nat) (l2 : Int32) (m0 : ab_Mm) (z : (Unit × ab_Mm)) (h : dd_X8_giveNotice  l0 l1 l2 m0 = some z) : ab_W l g cX8_giveNotice RX8 3 none [] false (d2 + 1) (.inl none) z.2 0 [(0, .ref l0), (1, .ref l1), (2, .int l2)] [] m0 := by
  unfold dd_X8_giveNotice at h
  refine ru_aload_n (i := 0) dX8_giveNotice_0 rfl rfl <| ?_
  refine ru_getR h dX8_giveNotice_1 lk_X8_23 ?_
  intro v1 h
  refine ru_iload_n (i := 2) dX8_giveNotice_4 rfl rfl <| ru_iconst dX8_giveNotice_5 kc_i_4 <| ru_aload_n (i := 0) dX8_giveNotice_6 rfl rfl <| ?_
  refine ru_getI h dX8_giveNotice_7 lk_X8_9 ?_
  intro v2 h
  refine ru_aload_n (i := 1) dX8_giveNotice_10 rfl rfl <| ?_
  refine ru_getR h dX8_giveNotice_11 lk_X8_141 ?_
  intro v3 h
  refine ru_iconst dX8_giveNotice_14 kc_i_0 <| ru_iconst dX8_giveNotice_15 kc_i_1 <| ?_
  obtain ⟨_, hrc, h⟩ := Option.bind_eq_some_iff.mp h
  obtain ⟨q4, hq4, h⟩ := Option.bind_eq_some_iff.mp h
  refine ru_callV (tm_X10_get hl0 (by omega) hq4) dX8_giveNotice_16 rfl pm_X8_79 mf_X10_get (ab_rcv_of hrc rfl) rfl rfl (Nat.le_of_ble_eq_true rfl) ?_
  refine ru_iadd dX8_giveNotice_19 <| ?_
  obtain ⟨_, hrc, h⟩ := Option.bind_eq_some_iff.mp h
  obtain ⟨q5, hq5, h⟩ := Option.bind_eq_some_iff.mp h
  refine ru_callV (tm_X10_set hl0 (by omega) hq5) dX8_giveNotice_20 rfl pm_X8_127 mf_X10_set (ab_rcv_of hrc rfl) rfl rfl (Nat.le_of_ble_eq_true rfl) ?_
  cases h
  exact ru_ret (v := none) ⟨rfl, dX8_giveNotice_23⟩
theorem tm_X8_giveNotice {l : Launch} {g : ab_G} (hl0 : l.stackTraces = false) {d : Nat} (hd : 2 ≤ d) {l0 : Nat} {l1 : Nat} {l2 : Int32} {m : ab_Mm} {z : (Unit × ab_Mm)} (h : dd_X8_giveNotice l0 l1 l2 m = some z) : ab_Met l g yX8_giveNotice cX8_giveNotice 3 none [] d [.ref l0, .ref l1, .int l2] m (.inl none) z.2 := by
  obtain ⟨d2, rfl⟩ : ∃ d2, d = d2 + 1 := ⟨d - 1, by omega⟩
  exact ab_of hl0 (by decide +kernel) (Nat.le_of_ble_eq_true rfl) (fun q => by cases q) rfl (te_X8_giveNotice hl0 hd _ _ _ _ _ h)
theorem tbb_X8_queue_35 {l : Launch} {g : ab_G} (hl0 : l.stackTraces = false) {d2 : Nat} (hd : 3 ≤ d2 + 1)   (l0 : Nat) (l1 : Int32) (l2 : Int32) (l3 : Int32) (l4 : Int32) (m0 : ab_Mm) (z : (Unit × ab_Mm)) (h : bb_X8_queue_35  l0 l1 l2 l3 l4 m0 = some z) : ab_W l g cX8_queue RX8 5 none [] false (d2 + 1) (.inl none) z.2 35 [(0, .ref l0), (1, .int l1), (2, .int l2), (3, .int l3), (4, .int l4)] [] m0 := by
  unfold bb_X8_queue_35 at h
  refine ru_aload_n (i := 0) dX8_queue_35 rfl rfl <| ?_
  refine ru_getR h dX8_queue_36 lk_X8_27 ?_
  intro v1 h
  refine ru_iload dX8_queue_39 rfl <| ?_
  obtain ⟨_, hrc, h⟩ := Option.bind_eq_some_iff.mp h
  obtain ⟨q2, hq2, h⟩ := Option.bind_eq_some_iff.mp h
  refine ru_callV (tm_X10_insertRow hl0 (by omega) hq2) dX8_queue_41 rfl pm_X8_144 mf_X10_insertRow (ab_rcv_of hrc rfl) rfl rfl (Nat.le_of_ble_eq_true rfl) ?_
  refine ru_aload_n (i := 0) dX8_queue_44 rfl rfl <| ?_
  refine ru_getR h dX8_queue_45 lk_X8_27 ?_
  intro v3 h
  refine ru_iload dX8_queue_48 rfl <| ru_iconst dX8_queue_50 kc_i_0 <| ru_iload_n (i := 1) dX8_queue_51 rfl rfl <| ?_
  obtain ⟨_, hrc, h⟩ := Option.bind_eq_some_iff.mp h
  obtain ⟨q4, hq4, h⟩ := Option.bind_eq_some_iff.mp h
  refine ru_callV (tm_X10_set hl0 (by omega) hq4) dX8_queue_52 rfl pm_X8_127 mf_X10_set (ab_rcv_of hrc rfl) rfl rfl (Nat.le_of_ble_eq_true rfl) ?_
  refine ru_aload_n (i := 0) dX8_queue_55 rfl rfl <| ?_
  refine ru_getR h dX8_queue_56 lk_X8_27 ?_
  intro v5 h
  refine ru_iload dX8_queue_59 rfl <| ru_iconst dX8_queue_61 kc_i_1 <| ru_iload_n (i := 2) dX8_queue_62 rfl rfl <| ?_
  obtain ⟨_, hrc, h⟩ := Option.bind_eq_some_iff.mp h
  obtain ⟨q6, hq6, h⟩ := Option.bind_eq_some_iff.mp h
  refine ru_callV (tm_X10_set hl0 (by omega) hq6) dX8_queue_63 rfl pm_X8_127 mf_X10_set (ab_rcv_of hrc rfl) rfl rfl (Nat.le_of_ble_eq_true rfl) ?_
  refine ru_aload_n (i := 0) dX8_queue_66 rfl rfl <| ?_
  refine ru_getR h dX8_queue_67 lk_X8_27 ?_
  intro v7 h
  refine ru_iload dX8_queue_70 rfl <| ru_iconst dX8_queue_72 kc_i_2 <| ru_iload_n (i := 3) dX8_queue_73 rfl rfl <| ?_
  obtain ⟨_, hrc, h⟩ := Option.bind_eq_some_iff.mp h
  obtain ⟨q8, hq8, h⟩ := Option.bind_eq_some_iff.mp h
  refine ru_callV (tm_X10_set hl0 (by omega) hq8) dX8_queue_74 rfl pm_X8_127 mf_X10_set (ab_rcv_of hrc rfl) rfl rfl (Nat.le_of_ble_eq_true rfl) ?_
  cases h
  exact ru_ret (v := none) ⟨rfl, dX8_queue_77⟩
theorem tbb_X8_queue_3 {l : Launch} {g : ab_G} (hl0 : l.stackTraces = false) {d2 : Nat} (hd : 3 ≤ d2 + 1)   : ∀ (n : Nat) (l0 : Nat) (l1 : Int32) (l2 : Int32) (l3 : Int32) (l4 : Int32) (m0 : ab_Mm) (z : (Unit × ab_Mm)), bb_X8_queue_3  n l0 l1 l2 l3 l4 m0 = some z → ab_W l g cX8_queue RX8 5 none [] false (d2 + 1) (.inl none) z.2 3 [(0, .ref l0), (1, .int l1), (2, .int l2), (3, .int l3), (4, .int l4)] [] m0 := by
  intro n
  induction n with
  | zero => intro l0 l1 l2 l3 l4 m0 z h; cases h
  | succ n ih =>
    intro l0 l1 l2 l3 l4 m0 z h
    rw [bb_X8_queue_3] at h
    refine ru_iload dX8_queue_3 rfl <| ru_aload_n (i := 0) dX8_queue_5 rfl rfl <| ?_
    refine ru_getR h dX8_queue_6 lk_X8_27 ?_
    intro v1 h
    refine ru_getI h dX8_queue_9 lk_X8_103 ?_
    intro v2 h
    refine ru_icmp_ge (tgt := 35) dX8_queue_12 (by decide) (fun hc => ?_) (fun hc => ?_)
    · rw [if_pos hc] at h
      exact ru_pick [0, 1, 2, 3, 4] rfl (tbb_X8_queue_35 hl0 hd   _ _ _ _ _ _ _ h)
    · rw [if_neg hc] at h
      refine ru_aload_n (i := 0) dX8_queue_15 rfl rfl <| ?_
      refine ru_getR h dX8_queue_16 lk_X8_27 ?_
      intro v3 h
      refine ru_iload dX8_queue_19 rfl <| ru_iconst dX8_queue_21 kc_i_2 <| ?_
      obtain ⟨_, hrc, h⟩ := Option.bind_eq_some_iff.mp h
      obtain ⟨q4, hq4, h⟩ := Option.bind_eq_some_iff.mp h
      refine ru_callV (tm_X10_get hl0 (by omega) hq4) dX8_queue_22 rfl pm_X8_79 mf_X10_get (ab_rcv_of hrc rfl) rfl rfl (Nat.le_of_ble_eq_true rfl) ?_
      refine ru_iload_n (i := 3) dX8_queue_25 rfl rfl <| ?_
      refine ru_icmp_lt (tgt := 35) dX8_queue_26 (by decide) (fun hc => ?_) (fun hc => ?_)
      · rw [if_pos hc] at h
        exact ru_pick [0, 1, 2, 3, 4] rfl (tbb_X8_queue_35 hl0 hd   _ _ _ _ _ _ _ h)
      · rw [if_neg hc] at h
        refine ru_iinc dX8_queue_29 (by decide) rfl (ab_inc kc_i_1) <| ru_goto (tgt := 3) dX8_queue_32 (by decide) <| ?_
        exact ru_pick [0, 1, 2, 3, 4] rfl (ih _ _ _ _ _ _ _ h)
theorem te_X8_queue {l : Launch} {g : ab_G} (hl0 : l.stackTraces = false) {d2 : Nat} (hd : 3 ≤ d2 + 1)   (l0 : Nat) (l1 : Int32) (l2 : Int32) (l3 : Int32) (m0 : ab_Mm) (z : (Unit × ab_Mm)) (h : dd_X8_queue  l0 l1 l2 l3 m0 = some z) : ab_W l g cX8_queue RX8 5 none [] false (d2 + 1) (.inl none) z.2 0 [(0, .ref l0), (1, .int l1), (2, .int l2), (3, .int l3)] [] m0 := by
  unfold dd_X8_queue at h
  refine ru_iconst dX8_queue_0 kc_i_0 <| ru_istore dX8_queue_1 (by decide) <| ?_
  exact ru_pick [0, 1, 2, 3, 4] rfl (tbb_X8_queue_3 hl0 hd   _ _ _ _ _ _ _ _ h)
theorem tm_X8_queue {l : Launch} {g : ab_G} (hl0 : l.stackTraces = false) {d : Nat} (hd : 3 ≤ d) {l0 : Nat} {l1 : Int32} {l2 : Int32} {l3 : Int32} {m : ab_Mm} {z : (Unit × ab_Mm)} (h : dd_X8_queue l0 l1 l2 l3 m = some z) : ab_Met l g yX8_queue cX8_queue 5 none [] d [.ref l0, .int l1, .int l2, .int l3] m (.inl none) z.2 := by
  obtain ⟨d2, rfl⟩ : ∃ d2, d = d2 + 1 := ⟨d - 1, by omega⟩
  exact ab_of hl0 (by decide +kernel) (Nat.le_of_ble_eq_true rfl) (fun q => by cases q) rfl (te_X8_queue hl0 hd _ _ _ _ _ _ h)
theorem tbb_X8_dropRequests_37 {l : Launch} {g : ab_G} (hl0 : l.stackTraces = false) {d2 : Nat} (hd : 3 ≤ d2 + 1) (r12 : Nat → Int32 → Int32 → Int32 → ab_Mm → Option (Int32 × ab_Mm)) (hr12 : ∀ (l0 : Nat) (l1 : Int32) (l2 : Int32) (l3 : Int32) (m : ab_Mm) (z : (Int32 × ab_Mm)), r12 l0 l1 l2 l3 m = some z → ab_W l g cX8_dropRequests RX8 4 (some .int) [] false (d2 + 1) (.inl (some (.int z.1))) z.2 12 [(0, .ref l0), (1, .int l1), (2, .int l2), (3, .int l3)] [] m) (l0 : Nat) (l1 : Int32) (l2 : Int32) (l3 : Int32) (m0 : ab_Mm) (z : (Int32 × ab_Mm)) (h : bb_X8_dropRequests_37 r12 l0 l1 l2 l3 m0 = some z) : ab_W l g cX8_dropRequests RX8 4 (some .int) [] false (d2 + 1) (.inl (some (.int z.1))) z.2 37 [(0, .ref l0), (1, .int l1), (2, .int l2), (3, .int l3)] [] m0 := by
  unfold bb_X8_dropRequests_37 at h
  refine ru_iinc dX8_dropRequests_37 (by decide) rfl (ab_inc kc_i_m1) <| ru_goto (tgt := 12) dX8_dropRequests_40 (by decide) <| ?_
  exact ru_pick [0, 1, 2, 3] rfl (hr12 _ _ _ _ _ _ h)
theorem tbb_X8_dropRequests_12 {l : Launch} {g : ab_G} (hl0 : l.stackTraces = false) {d2 : Nat} (hd : 3 ≤ d2 + 1)   : ∀ (n : Nat) (l0 : Nat) (l1 : Int32) (l2 : Int32) (l3 : Int32) (m0 : ab_Mm) (z : (Int32 × ab_Mm)), bb_X8_dropRequests_12  n l0 l1 l2 l3 m0 = some z → ab_W l g cX8_dropRequests RX8 4 (some .int) [] false (d2 + 1) (.inl (some (.int z.1))) z.2 12 [(0, .ref l0), (1, .int l1), (2, .int l2), (3, .int l3)] [] m0 := by
  intro n
  induction n with
  | zero => intro l0 l1 l2 l3 m0 z h; cases h
  | succ n ih =>
    intro l0 l1 l2 l3 m0 z h
    rw [bb_X8_dropRequests_12] at h
    refine ru_iload_n (i := 3) dX8_dropRequests_12 rfl rfl <| ?_
    refine ru_if_lt (tgt := 43) dX8_dropRequests_13 (by decide) (fun hc => ?_) (fun hc => ?_)
    · rw [if_pos hc] at h
      refine ru_iload_n (i := 2) dX8_dropRequests_43 rfl rfl <| ru_aload_n (i := 0) dX8_dropRequests_44 rfl rfl <| ?_
      refine ru_getR h dX8_dropRequests_45 lk_X8_27 ?_
      intro v1 h
      refine ru_getI h dX8_dropRequests_48 lk_X8_103 ?_
      intro v2 h
      refine ru_isub dX8_dropRequests_51 <| ?_
      cases h
      exact ru_ret (v := some (.int _)) ⟨_, rfl, rfl, dX8_dropRequests_52⟩
    · rw [if_neg hc] at h
      refine ru_aload_n (i := 0) dX8_dropRequests_16 rfl rfl <| ?_
      refine ru_getR h dX8_dropRequests_17 lk_X8_27 ?_
      intro v3 h
      refine ru_iload_n (i := 3) dX8_dropRequests_20 rfl rfl <| ru_iconst dX8_dropRequests_21 kc_i_0 <| ?_
      obtain ⟨_, hrc, h⟩ := Option.bind_eq_some_iff.mp h
      obtain ⟨q4, hq4, h⟩ := Option.bind_eq_some_iff.mp h
      refine ru_callV (tm_X10_get hl0 (by omega) hq4) dX8_dropRequests_22 rfl pm_X8_79 mf_X10_get (ab_rcv_of hrc rfl) rfl rfl (Nat.le_of_ble_eq_true rfl) ?_
      refine ru_iload_n (i := 1) dX8_dropRequests_25 rfl rfl <| ?_
      refine ru_icmp_ne (tgt := 37) dX8_dropRequests_26 (by decide) (fun hc => ?_) (fun hc => ?_)
      · rw [if_neg hc] at h
        exact ru_pick [0, 1, 2, 3] rfl (tbb_X8_dropRequests_37 hl0 hd _ ih _ _ _ _ _ _ h)
      · rw [if_pos hc] at h
        refine ru_aload_n (i := 0) dX8_dropRequests_29 rfl rfl <| ?_
        refine ru_getR h dX8_dropRequests_30 lk_X8_27 ?_
        intro v5 h
        refine ru_iload_n (i := 3) dX8_dropRequests_33 rfl rfl <| ?_
        obtain ⟨_, hrc, h⟩ := Option.bind_eq_some_iff.mp h
        obtain ⟨q6, hq6, h⟩ := Option.bind_eq_some_iff.mp h
        refine ru_callV (tm_X10_removeRow hl0 (by omega) hq6) dX8_dropRequests_34 rfl pm_X8_148 mf_X10_removeRow (ab_rcv_of hrc rfl) rfl rfl (Nat.le_of_ble_eq_true rfl) ?_
        exact ru_pick [0, 1, 2, 3] rfl (tbb_X8_dropRequests_37 hl0 hd _ ih _ _ _ _ _ _ h)
theorem te_X8_dropRequests {l : Launch} {g : ab_G} (hl0 : l.stackTraces = false) {d2 : Nat} (hd : 3 ≤ d2 + 1)   (l0 : Nat) (l1 : Int32) (m0 : ab_Mm) (z : (Int32 × ab_Mm)) (h : dd_X8_dropRequests  l0 l1 m0 = some z) : ab_W l g cX8_dropRequests RX8 4 (some .int) [] false (d2 + 1) (.inl (some (.int z.1))) z.2 0 [(0, .ref l0), (1, .int l1)] [] m0 := by
  unfold dd_X8_dropRequests at h
  refine ru_aload_n (i := 0) dX8_dropRequests_0 rfl rfl <| ?_
  refine ru_getR h dX8_dropRequests_1 lk_X8_27 ?_
  intro v1 h
  refine ru_getI h dX8_dropRequests_4 lk_X8_103 ?_
  intro v2 h
  refine ru_istore_n (i := 2) dX8_dropRequests_7 rfl (by decide) <| ru_iload_n (i := 2) dX8_dropRequests_8 rfl rfl <| ru_iconst dX8_dropRequests_9 kc_i_1 <| ru_isub dX8_dropRequests_10 <| ru_istore_n (i := 3) dX8_dropRequests_11 rfl (by decide) <| ?_
  exact ru_pick [0, 1, 2, 3] rfl (tbb_X8_dropRequests_12 hl0 hd   _ _ _ _ _ _ _ h)
theorem tm_X8_dropRequests {l : Launch} {g : ab_G} (hl0 : l.stackTraces = false) {d : Nat} (hd : 3 ≤ d) {l0 : Nat} {l1 : Int32} {m : ab_Mm} {z : (Int32 × ab_Mm)} (h : dd_X8_dropRequests l0 l1 m = some z) : ab_Met l g yX8_dropRequests cX8_dropRequests 4 (some .int) [] d [.ref l0, .int l1] m (.inl (some (.int z.1))) z.2 := by
  obtain ⟨d2, rfl⟩ : ∃ d2, d = d2 + 1 := ⟨d - 1, by omega⟩
  exact ab_of hl0 (by decide +kernel) (Nat.le_of_ble_eq_true rfl) (fun q => by cases q) rfl (te_X8_dropRequests hl0 hd _ _ _ _ h)
theorem tbb_X8_endDue_56 {l : Launch} {g : ab_G} (hl0 : l.stackTraces = false) {d2 : Nat} (hd : 5 ≤ d2 + 1) (r4 : Nat → Nat → Int32 → Int32 → ab_Mm → Option (Int32 × ab_Mm)) (hr4 : ∀ (l0 : Nat) (l1 : Nat) (l2 : Int32) (l3 : Int32) (m : ab_Mm) (z : (Int32 × ab_Mm)), r4 l0 l1 l2 l3 m = some z → ab_W l g cX8_endDue RX8 5 (some .int) [] false (d2 + 1) (.inl (some (.int z.1))) z.2 4 [(0, .ref l0), (1, .ref l1), (2, .int l2), (3, .int l3)] [] m) (l0 : Nat) (l1 : Nat) (l2 : Int32) (l3 : Int32) (m0 : ab_Mm) (z : (Int32 × ab_Mm)) (h : bb_X8_endDue_56 r4 l0 l1 l2 l3 m0 = some z) : ab_W l g cX8_endDue RX8 5 (some .int) [] false (d2 + 1) (.inl (some (.int z.1))) z.2 56 [(0, .ref l0), (1, .ref l1), (2, .int l2), (3, .int l3)] [] m0 := by
  unfold bb_X8_endDue_56 at h
  refine ru_iinc dX8_endDue_56 (by decide) rfl (ab_inc kc_i_1) <| ru_goto (tgt := 4) dX8_endDue_59 (by decide) <| ?_
  exact ru_pick [0, 1, 2, 3] rfl (hr4 _ _ _ _ _ _ h)
theorem tbb_X8_endDue_4 {l : Launch} {g : ab_G} (hl0 : l.stackTraces = false) {d2 : Nat} (hd : 5 ≤ d2 + 1)   : ∀ (n : Nat) (l0 : Nat) (l1 : Nat) (l2 : Int32) (l3 : Int32) (m0 : ab_Mm) (z : (Int32 × ab_Mm)), bb_X8_endDue_4  n l0 l1 l2 l3 m0 = some z → ab_W l g cX8_endDue RX8 5 (some .int) [] false (d2 + 1) (.inl (some (.int z.1))) z.2 4 [(0, .ref l0), (1, .ref l1), (2, .int l2), (3, .int l3)] [] m0 := by
  intro n
  induction n with
  | zero => intro l0 l1 l2 l3 m0 z h; cases h
  | succ n ih =>
    intro l0 l1 l2 l3 m0 z h
    rw [bb_X8_endDue_4] at h
    refine ru_iload_n (i := 3) dX8_endDue_4 rfl rfl <| ru_bipush dX8_endDue_5 kc_b_12 <| ?_
    refine ru_icmp_ge (tgt := 62) dX8_endDue_7 (by decide) (fun hc => ?_) (fun hc => ?_)
    · rw [if_pos hc] at h
      refine ru_iload_n (i := 2) dX8_endDue_62 rfl rfl <| ?_
      cases h
      exact ru_ret (v := some (.int _)) ⟨_, rfl, rfl, dX8_endDue_63⟩
    · rw [if_neg hc] at h
      refine ru_aload_n (i := 0) dX8_endDue_10 rfl rfl <| ?_
      refine ru_getR h dX8_endDue_11 lk_X8_23 ?_
      intro v1 h
      refine ru_iload_n (i := 3) dX8_endDue_14 rfl rfl <| ru_iconst dX8_endDue_15 kc_i_4 <| ?_
      obtain ⟨_, hrc, h⟩ := Option.bind_eq_some_iff.mp h
      obtain ⟨q2, hq2, h⟩ := Option.bind_eq_some_iff.mp h
      refine ru_callV (tm_X10_get hl0 (by omega) hq2) dX8_endDue_16 rfl pm_X8_79 mf_X10_get (ab_rcv_of hrc rfl) rfl rfl (Nat.le_of_ble_eq_true rfl) ?_
      refine ru_istore dX8_endDue_19 (by decide) <| ru_aload_n (i := 0) dX8_endDue_21 rfl rfl <| ru_iload_n (i := 3) dX8_endDue_22 rfl rfl <| ?_
      obtain ⟨_, hrc, h⟩ := Option.bind_eq_some_iff.mp h
      obtain ⟨q3, hq3, h⟩ := Option.bind_eq_some_iff.mp h
      refine ru_callV (tm_X8_runs hl0 (by omega) hq3) dX8_endDue_23 rfl pm_X8_75 mf_X8_runs (ab_rcv_of hrc rfl) rfl rfl (Nat.le_of_ble_eq_true rfl) ?_
      refine ru_if_eq (tgt := 56) dX8_endDue_26 (by decide) (fun hc => ?_) (fun hc => ?_)
      · rw [if_pos hc] at h
        exact ru_pick [0, 1, 2, 3] rfl (tbb_X8_endDue_56 hl0 hd _ ih _ _ _ _ _ _ h)
      · rw [if_neg hc] at h
        refine ru_iload dX8_endDue_29 rfl <| ru_iconst dX8_endDue_31 kc_i_m1 <| ?_
        refine ru_icmp_eq (tgt := 56) dX8_endDue_32 (by decide) (fun hc => ?_) (fun hc => ?_)
        · rw [if_pos hc] at h
          exact ru_pick [0, 1, 2, 3] rfl (tbb_X8_endDue_56 hl0 hd _ ih _ _ _ _ _ _ h)
        · rw [if_neg hc] at h
          refine ru_iload dX8_endDue_35 rfl <| ru_aload_n (i := 0) dX8_endDue_37 rfl rfl <| ?_
          refine ru_getI h dX8_endDue_38 lk_X8_9 ?_
          intro v4 h
          refine ru_icmp_gt (tgt := 56) dX8_endDue_41 (by decide) (fun hc => ?_) (fun hc => ?_)
          · rw [if_pos hc] at h
            exact ru_pick [0, 1, 2, 3] rfl (tbb_X8_endDue_56 hl0 hd _ ih _ _ _ _ _ _ h)
          · rw [if_neg hc] at h
            refine ru_aload_n (i := 0) dX8_endDue_44 rfl rfl <| ru_aload_n (i := 1) dX8_endDue_45 rfl rfl <| ru_iload_n (i := 3) dX8_endDue_46 rfl rfl <| ?_
            obtain ⟨_, hrc, h⟩ := Option.bind_eq_some_iff.mp h
            obtain ⟨q5, hq5, h⟩ := Option.bind_eq_some_iff.mp h
            refine ru_callV (tm_X8_end hl0 (by omega) hq5) dX8_endDue_47 rfl pm_X8_161 mf_X8_end (ab_rcv_of hrc rfl) rfl rfl (Nat.le_of_ble_eq_true rfl) ?_
            refine ru_iload_n (i := 2) dX8_endDue_50 rfl rfl <| ru_iconst dX8_endDue_51 kc_i_1 <| ru_iload_n (i := 3) dX8_endDue_52 rfl rfl <| ru_ishl dX8_endDue_53 <| ru_ior dX8_endDue_54 <| ru_istore_n (i := 2) dX8_endDue_55 rfl (by decide) <| ?_
            exact ru_pick [0, 1, 2, 3] rfl (tbb_X8_endDue_56 hl0 hd _ ih _ _ _ _ _ _ h)
theorem te_X8_endDue {l : Launch} {g : ab_G} (hl0 : l.stackTraces = false) {d2 : Nat} (hd : 5 ≤ d2 + 1)   (l0 : Nat) (l1 : Nat) (m0 : ab_Mm) (z : (Int32 × ab_Mm)) (h : dd_X8_endDue  l0 l1 m0 = some z) : ab_W l g cX8_endDue RX8 5 (some .int) [] false (d2 + 1) (.inl (some (.int z.1))) z.2 0 [(0, .ref l0), (1, .ref l1)] [] m0 := by
  unfold dd_X8_endDue at h
  refine ru_iconst dX8_endDue_0 kc_i_0 <| ru_istore_n (i := 2) dX8_endDue_1 rfl (by decide) <| ru_iconst dX8_endDue_2 kc_i_0 <| ru_istore_n (i := 3) dX8_endDue_3 rfl (by decide) <| ?_
  exact ru_pick [0, 1, 2, 3] rfl (tbb_X8_endDue_4 hl0 hd   _ _ _ _ _ _ _ h)
theorem tm_X8_endDue {l : Launch} {g : ab_G} (hl0 : l.stackTraces = false) {d : Nat} (hd : 5 ≤ d) {l0 : Nat} {l1 : Nat} {m : ab_Mm} {z : (Int32 × ab_Mm)} (h : dd_X8_endDue l0 l1 m = some z) : ab_Met l g yX8_endDue cX8_endDue 5 (some .int) [] d [.ref l0, .ref l1] m (.inl (some (.int z.1))) z.2 := by
  obtain ⟨d2, rfl⟩ : ∃ d2, d = d2 + 1 := ⟨d - 1, by omega⟩
  exact ab_of hl0 (by decide +kernel) (Nat.le_of_ble_eq_true rfl) (fun q => by cases q) rfl (te_X8_endDue hl0 hd _ _ _ _ h)
theorem tbb_X8_setNotices_84 {l : Launch} {g : ab_G} (hl0 : l.stackTraces = false) {d2 : Nat} (hd : 3 ≤ d2 + 1) (r2 : Nat → Nat → Int32 → ab_Mm → Option (Unit × ab_Mm)) (hr2 : ∀ (l0 : Nat) (l1 : Nat) (l2 : Int32) (m : ab_Mm) (z : (Unit × ab_Mm)), r2 l0 l1 l2 m = some z → ab_W l g cX8_setNotices RX8 4 none [] false (d2 + 1) (.inl none) z.2 2 [(0, .ref l0), (1, .ref l1), (2, .int l2)] [] m) (l0 : Nat) (l1 : Nat) (l2 : Int32) (m0 : ab_Mm) (z : (Unit × ab_Mm)) (h : bb_X8_setNotices_84 r2 l0 l1 l2 m0 = some z) : ab_W l g cX8_setNotices RX8 4 none [] false (d2 + 1) (.inl none) z.2 84 [(0, .ref l0), (1, .ref l1), (2, .int l2)] [] m0 := by
  unfold bb_X8_setNotices_84 at h
  refine ru_iinc dX8_setNotices_84 (by decide) rfl (ab_inc kc_i_1) <| ru_goto (tgt := 2) dX8_setNotices_87 (by decide) <| ?_
  exact ru_pick [0, 1, 2] rfl (hr2 _ _ _ _ _ h)
theorem tbb_X8_setNotices_2 {l : Launch} {g : ab_G} (hl0 : l.stackTraces = false) {d2 : Nat} (hd : 3 ≤ d2 + 1)   : ∀ (n : Nat) (l0 : Nat) (l1 : Nat) (l2 : Int32) (m0 : ab_Mm) (z : (Unit × ab_Mm)), bb_X8_setNotices_2  n l0 l1 l2 m0 = some z → ab_W l g cX8_setNotices RX8 4 none [] false (d2 + 1) (.inl none) z.2 2 [(0, .ref l0), (1, .ref l1), (2, .int l2)] [] m0 := by
  intro n
  induction n with
  | zero => intro l0 l1 l2 m0 z h; cases h
  | succ n ih =>
    intro l0 l1 l2 m0 z h
    rw [bb_X8_setNotices_2] at h
    refine ru_iload_n (i := 2) dX8_setNotices_2 rfl rfl <| ru_bipush dX8_setNotices_3 kc_b_12 <| ?_
    refine ru_icmp_ge (tgt := 90) dX8_setNotices_5 (by decide) (fun hc => ?_) (fun hc => ?_)
    · rw [if_pos hc] at h
      cases h
      exact ru_ret (v := none) ⟨rfl, dX8_setNotices_90⟩
    · rw [if_neg hc] at h
      refine ru_aload_n (i := 0) dX8_setNotices_8 rfl rfl <| ?_
      refine ru_getR h dX8_setNotices_9 lk_X8_23 ?_
      intro v1 h
      refine ru_iload_n (i := 2) dX8_setNotices_12 rfl rfl <| ru_iconst dX8_setNotices_13 kc_i_2 <| ?_
      obtain ⟨_, hrc, h⟩ := Option.bind_eq_some_iff.mp h
      obtain ⟨q2, hq2, h⟩ := Option.bind_eq_some_iff.mp h
      refine ru_callV (tm_X10_get hl0 (by omega) hq2) dX8_setNotices_14 rfl pm_X8_79 mf_X10_get (ab_rcv_of hrc rfl) rfl rfl (Nat.le_of_ble_eq_true rfl) ?_
      refine ru_istore_n (i := 3) dX8_setNotices_17 rfl (by decide) <| ru_aload_n (i := 0) dX8_setNotices_18 rfl rfl <| ru_iload_n (i := 2) dX8_setNotices_19 rfl rfl <| ?_
      obtain ⟨_, hrc, h⟩ := Option.bind_eq_some_iff.mp h
      obtain ⟨q3, hq3, h⟩ := Option.bind_eq_some_iff.mp h
      refine ru_callV (tm_X8_runs hl0 (by omega) hq3) dX8_setNotices_20 rfl pm_X8_75 mf_X8_runs (ab_rcv_of hrc rfl) rfl rfl (Nat.le_of_ble_eq_true rfl) ?_
      refine ru_if_eq (tgt := 84) dX8_setNotices_23 (by decide) (fun hc => ?_) (fun hc => ?_)
      · rw [if_pos hc] at h
        exact ru_pick [0, 1, 2] rfl (tbb_X8_setNotices_84 hl0 hd _ ih _ _ _ _ _ h)
      · rw [if_neg hc] at h
        refine ru_iload_n (i := 3) dX8_setNotices_26 rfl rfl <| ru_iconst dX8_setNotices_27 kc_i_m1 <| ?_
        refine ru_icmp_eq (tgt := 84) dX8_setNotices_28 (by decide) (fun hc => ?_) (fun hc => ?_)
        · rw [if_pos hc] at h
          exact ru_pick [0, 1, 2] rfl (tbb_X8_setNotices_84 hl0 hd _ ih _ _ _ _ _ h)
        · rw [if_neg hc] at h
          refine ru_iload_n (i := 3) dX8_setNotices_31 rfl rfl <| ru_aload_n (i := 0) dX8_setNotices_32 rfl rfl <| ?_
          refine ru_getR h dX8_setNotices_33 lk_X8_30 ?_
          intro v4 h
          refine ru_aload_n (i := 0) dX8_setNotices_36 rfl rfl <| ?_
          refine ru_getR h dX8_setNotices_37 lk_X8_23 ?_
          intro v5 h
          refine ru_iload_n (i := 2) dX8_setNotices_40 rfl rfl <| ru_iconst dX8_setNotices_41 kc_i_1 <| ?_
          obtain ⟨_, hrc, h⟩ := Option.bind_eq_some_iff.mp h
          obtain ⟨q6, hq6, h⟩ := Option.bind_eq_some_iff.mp h
          refine ru_callV (tm_X10_get hl0 (by omega) hq6) dX8_setNotices_42 rfl pm_X8_79 mf_X10_get (ab_rcv_of hrc rfl) rfl rfl (Nat.le_of_ble_eq_true rfl) ?_
          refine ru_iconst dX8_setNotices_45 kc_i_0 <| ?_
          obtain ⟨_, hrc, h⟩ := Option.bind_eq_some_iff.mp h
          obtain ⟨q7, hq7, h⟩ := Option.bind_eq_some_iff.mp h
          refine ru_callV (tm_X10_get hl0 (by omega) hq7) dX8_setNotices_46 rfl pm_X8_79 mf_X10_get (ab_rcv_of hrc rfl) rfl rfl (Nat.le_of_ble_eq_true rfl) ?_
          refine ru_icmp_lt (tgt := 65) dX8_setNotices_49 (by decide) (fun hc => ?_) (fun hc => ?_)
          · rw [if_pos hc] at h
            refine ru_aload_n (i := 0) dX8_setNotices_65 rfl rfl <| ?_
            refine ru_getR h dX8_setNotices_66 lk_X8_23 ?_
            intro v8 h
            refine ru_iload_n (i := 2) dX8_setNotices_69 rfl rfl <| ru_iconst dX8_setNotices_70 kc_i_4 <| ?_
            obtain ⟨_, hrc, h⟩ := Option.bind_eq_some_iff.mp h
            obtain ⟨q9, hq9, h⟩ := Option.bind_eq_some_iff.mp h
            refine ru_callV (tm_X10_get hl0 (by omega) hq9) dX8_setNotices_71 rfl pm_X8_79 mf_X10_get (ab_rcv_of hrc rfl) rfl rfl (Nat.le_of_ble_eq_true rfl) ?_
            refine ru_iconst dX8_setNotices_74 kc_i_m1 <| ?_
            refine ru_icmp_ne (tgt := 84) dX8_setNotices_75 (by decide) (fun hc => ?_) (fun hc => ?_)
            · rw [if_neg hc] at h
              exact ru_pick [0, 1, 2] rfl (tbb_X8_setNotices_84 hl0 hd _ ih _ _ _ _ _ h)
            · rw [if_pos hc] at h
              refine ru_aload_n (i := 0) dX8_setNotices_78 rfl rfl <| ru_aload_n (i := 1) dX8_setNotices_79 rfl rfl <| ru_iload_n (i := 2) dX8_setNotices_80 rfl rfl <| ?_
              obtain ⟨_, hrc, h⟩ := Option.bind_eq_some_iff.mp h
              obtain ⟨q10, hq10, h⟩ := Option.bind_eq_some_iff.mp h
              refine ru_callV (tm_X8_giveNotice hl0 (by omega) hq10) dX8_setNotices_81 rfl pm_X8_171 mf_X8_giveNotice (ab_rcv_of hrc rfl) rfl rfl (Nat.le_of_ble_eq_true rfl) ?_
              exact ru_pick [0, 1, 2] rfl (tbb_X8_setNotices_84 hl0 hd _ ih _ _ _ _ _ h)
          · rw [if_neg hc] at h
            refine ru_aload_n (i := 0) dX8_setNotices_52 rfl rfl <| ?_
            refine ru_getR h dX8_setNotices_53 lk_X8_23 ?_
            intro v11 h
            refine ru_iload_n (i := 2) dX8_setNotices_56 rfl rfl <| ru_iconst dX8_setNotices_57 kc_i_4 <| ru_iconst dX8_setNotices_58 kc_i_m1 <| ?_
            obtain ⟨_, hrc, h⟩ := Option.bind_eq_some_iff.mp h
            obtain ⟨q12, hq12, h⟩ := Option.bind_eq_some_iff.mp h
            refine ru_callV (tm_X10_set hl0 (by omega) hq12) dX8_setNotices_59 rfl pm_X8_127 mf_X10_set (ab_rcv_of hrc rfl) rfl rfl (Nat.le_of_ble_eq_true rfl) ?_
            refine ru_goto (tgt := 84) dX8_setNotices_62 (by decide) <| ?_
            exact ru_pick [0, 1, 2] rfl (tbb_X8_setNotices_84 hl0 hd _ ih _ _ _ _ _ h)
theorem te_X8_setNotices {l : Launch} {g : ab_G} (hl0 : l.stackTraces = false) {d2 : Nat} (hd : 3 ≤ d2 + 1)   (l0 : Nat) (l1 : Nat) (m0 : ab_Mm) (z : (Unit × ab_Mm)) (h : dd_X8_setNotices  l0 l1 m0 = some z) : ab_W l g cX8_setNotices RX8 4 none [] false (d2 + 1) (.inl none) z.2 0 [(0, .ref l0), (1, .ref l1)] [] m0 := by
  unfold dd_X8_setNotices at h
  refine ru_iconst dX8_setNotices_0 kc_i_0 <| ru_istore_n (i := 2) dX8_setNotices_1 rfl (by decide) <| ?_
  exact ru_pick [0, 1, 2] rfl (tbb_X8_setNotices_2 hl0 hd   _ _ _ _ _ _ h)
theorem tm_X8_setNotices {l : Launch} {g : ab_G} (hl0 : l.stackTraces = false) {d : Nat} (hd : 3 ≤ d) {l0 : Nat} {l1 : Nat} {m : ab_Mm} {z : (Unit × ab_Mm)} (h : dd_X8_setNotices l0 l1 m = some z) : ab_Met l g yX8_setNotices cX8_setNotices 4 none [] d [.ref l0, .ref l1] m (.inl none) z.2 := by
  obtain ⟨d2, rfl⟩ : ∃ d2, d = d2 + 1 := ⟨d - 1, by omega⟩
  exact ab_of hl0 (by decide +kernel) (Nat.le_of_ble_eq_true rfl) (fun q => by cases q) rfl (te_X8_setNotices hl0 hd _ _ _ _ h)
theorem tbb_X8_grantRequests_137 {l : Launch} {g : ab_G} (hl0 : l.stackTraces = false) {d2 : Nat} (hd : 5 ≤ d2 + 1)    (m0 : ab_Mm) (z : (Unit × ab_Mm)) (h : bb_X8_grantRequests_137   m0 = some z) : ab_W l g cX8_grantRequests RX8 8 none [] false (d2 + 1) (.inl none) z.2 137 [] [] m0 := by
  unfold bb_X8_grantRequests_137 at h
  cases h
  exact ru_ret (v := none) ⟨rfl, dX8_grantRequests_137⟩
theorem tbb_X8_grantRequests_131 {l : Launch} {g : ab_G} (hl0 : l.stackTraces = false) {d2 : Nat} (hd : 5 ≤ d2 + 1) (r4 : Nat → Nat → Int32 → Int32 → ab_Mm → Option (Unit × ab_Mm)) (hr4 : ∀ (l0 : Nat) (l1 : Nat) (l2 : Int32) (l3 : Int32) (m : ab_Mm) (z : (Unit × ab_Mm)), r4 l0 l1 l2 l3 m = some z → ab_W l g cX8_grantRequests RX8 8 none [] false (d2 + 1) (.inl none) z.2 4 [(0, .ref l0), (1, .ref l1), (2, .int l2), (3, .int l3)] [] m) (l0 : Nat) (l1 : Nat) (l2 : Int32) (l3 : Int32) (m0 : ab_Mm) (z : (Unit × ab_Mm)) (h : bb_X8_grantRequests_131 r4 l0 l1 l2 l3 m0 = some z) : ab_W l g cX8_grantRequests RX8 8 none [] false (d2 + 1) (.inl none) z.2 131 [(0, .ref l0), (1, .ref l1), (2, .int l2), (3, .int l3)] [] m0 := by
  unfold bb_X8_grantRequests_131 at h
  refine ru_iinc dX8_grantRequests_131 (by decide) rfl (ab_inc kc_i_1) <| ru_goto (tgt := 4) dX8_grantRequests_134 (by decide) <| ?_
  exact ru_pick [0, 1, 2, 3] rfl (hr4 _ _ _ _ _ _ h)
theorem tbb_X8_grantRequests_88 {l : Launch} {g : ab_G} (hl0 : l.stackTraces = false) {d2 : Nat} (hd : 5 ≤ d2 + 1) (r4 : Nat → Nat → Int32 → Int32 → ab_Mm → Option (Unit × ab_Mm)) (hr4 : ∀ (l0 : Nat) (l1 : Nat) (l2 : Int32) (l3 : Int32) (m : ab_Mm) (z : (Unit × ab_Mm)), r4 l0 l1 l2 l3 m = some z → ab_W l g cX8_grantRequests RX8 8 none [] false (d2 + 1) (.inl none) z.2 4 [(0, .ref l0), (1, .ref l1), (2, .int l2), (3, .int l3)] [] m) (l0 : Nat) (l1 : Nat) (l2 : Int32) (l3 : Int32) (l4 : Int32) (l5 : Int32) (s0 : Int32) (m0 : ab_Mm) (z : (Unit × ab_Mm)) (h : bb_X8_grantRequests_88 r4 l0 l1 l2 l3 l4 l5 s0 m0 = some z) : ab_W l g cX8_grantRequests RX8 8 none [] false (d2 + 1) (.inl none) z.2 88 [(0, .ref l0), (1, .ref l1), (2, .int l2), (3, .int l3), (4, .int l4), (5, .int l5)] [.int s0] m0 := by
  unfold bb_X8_grantRequests_88 at h
  refine ru_istore dX8_grantRequests_88 (by decide) <| ru_iload dX8_grantRequests_90 rfl <| ru_iconst dX8_grantRequests_92 kc_i_m1 <| ?_
  refine ru_icmp_ne (tgt := 102) dX8_grantRequests_93 (by decide) (fun hc => ?_) (fun hc => ?_)
  · rw [if_neg hc] at h
    refine ru_aload_n (i := 0) dX8_grantRequests_102 rfl rfl <| ru_aload_n (i := 1) dX8_grantRequests_103 rfl rfl <| ru_aload_n (i := 0) dX8_grantRequests_104 rfl rfl <| ?_
    refine ru_getR h dX8_grantRequests_105 lk_X8_27 ?_
    intro v1 h
    refine ru_iload_n (i := 2) dX8_grantRequests_108 rfl rfl <| ru_iconst dX8_grantRequests_109 kc_i_0 <| ?_
    obtain ⟨_, hrc, h⟩ := Option.bind_eq_some_iff.mp h
    obtain ⟨q2, hq2, h⟩ := Option.bind_eq_some_iff.mp h
    refine ru_callV (tm_X10_get hl0 (by omega) hq2) dX8_grantRequests_110 rfl pm_X8_79 mf_X10_get (ab_rcv_of hrc rfl) rfl rfl (Nat.le_of_ble_eq_true rfl) ?_
    refine ru_iload dX8_grantRequests_113 rfl <| ru_iload dX8_grantRequests_115 rfl <| ru_iload dX8_grantRequests_117 rfl <| ?_
    obtain ⟨_, hrc, h⟩ := Option.bind_eq_some_iff.mp h
    obtain ⟨q3, hq3, h⟩ := Option.bind_eq_some_iff.mp h
    refine ru_callV (tm_X8_start hl0 (by omega) hq3) dX8_grantRequests_119 rfl pm_X8_181 mf_X8_start (ab_rcv_of hrc rfl) rfl rfl (Nat.le_of_ble_eq_true rfl) ?_
    refine ru_pop dX8_grantRequests_122 rfl <| ru_aload_n (i := 0) dX8_grantRequests_123 rfl rfl <| ?_
    refine ru_getR h dX8_grantRequests_124 lk_X8_27 ?_
    intro v4 h
    refine ru_iload_n (i := 2) dX8_grantRequests_127 rfl rfl <| ?_
    obtain ⟨_, hrc, h⟩ := Option.bind_eq_some_iff.mp h
    obtain ⟨q5, hq5, h⟩ := Option.bind_eq_some_iff.mp h
    refine ru_callV (tm_X10_removeRow hl0 (by omega) hq5) dX8_grantRequests_128 rfl pm_X8_148 mf_X10_removeRow (ab_rcv_of hrc rfl) rfl rfl (Nat.le_of_ble_eq_true rfl) ?_
    exact ru_pick [0, 1, 2, 3] rfl (tbb_X8_grantRequests_131 hl0 hd _ hr4 _ _ _ _ _ _ h)
  · rw [if_pos hc] at h
    refine ru_iinc dX8_grantRequests_96 (by decide) rfl (ab_inc kc_i_1) <| ru_goto (tgt := 131) dX8_grantRequests_99 (by decide) <| ?_
    exact ru_pick [0, 1, 2, 3] rfl (tbb_X8_grantRequests_131 hl0 hd _ hr4 _ _ _ _ _ _ h)
theorem tbb_X8_grantRequests_70 {l : Launch} {g : ab_G} (hl0 : l.stackTraces = false) {d2 : Nat} (hd : 5 ≤ d2 + 1) (r4 : Nat → Nat → Int32 → Int32 → ab_Mm → Option (Unit × ab_Mm)) (hr4 : ∀ (l0 : Nat) (l1 : Nat) (l2 : Int32) (l3 : Int32) (m : ab_Mm) (z : (Unit × ab_Mm)), r4 l0 l1 l2 l3 m = some z → ab_W l g cX8_grantRequests RX8 8 none [] false (d2 + 1) (.inl none) z.2 4 [(0, .ref l0), (1, .ref l1), (2, .int l2), (3, .int l3)] [] m) (l0 : Nat) (l1 : Nat) (l2 : Int32) (l3 : Int32) (l4 : Int32) (l5 : Int32) (s0 : Int32) (m0 : ab_Mm) (z : (Unit × ab_Mm)) (h : bb_X8_grantRequests_70 r4 l0 l1 l2 l3 l4 l5 s0 m0 = some z) : ab_W l g cX8_grantRequests RX8 8 none [] false (d2 + 1) (.inl none) z.2 70 [(0, .ref l0), (1, .ref l1), (2, .int l2), (3, .int l3), (4, .int l4), (5, .int l5)] [.int s0] m0 := by
  unfold bb_X8_grantRequests_70 at h
  refine ru_istore dX8_grantRequests_70 (by decide) <| ru_iload dX8_grantRequests_72 rfl <| ?_
  refine ru_if_eq (tgt := 87) dX8_grantRequests_74 (by decide) (fun hc => ?_) (fun hc => ?_)
  · rw [if_pos hc] at h
    refine ru_iconst dX8_grantRequests_87 kc_i_m1 <| ?_
    exact ru_pick [0, 1, 2, 3, 4, 5] rfl (tbb_X8_grantRequests_88 hl0 hd _ hr4 _ _ _ _ _ _ _ _ _ h)
  · rw [if_neg hc] at h
    refine ru_aload_n (i := 0) dX8_grantRequests_77 rfl rfl <| ru_aload_n (i := 1) dX8_grantRequests_78 rfl rfl <| ru_iload dX8_grantRequests_79 rfl <| ?_
    obtain ⟨_, hrc, h⟩ := Option.bind_eq_some_iff.mp h
    obtain ⟨q1, hq1, h⟩ := Option.bind_eq_some_iff.mp h
    refine ru_callV (tm_X8_tightestHost hl0 (by omega) hq1) dX8_grantRequests_81 rfl pm_X8_178 mf_X8_tightestHost (ab_rcv_of hrc rfl) rfl rfl (Nat.le_of_ble_eq_true rfl) ?_
    refine ru_goto (tgt := 88) dX8_grantRequests_84 (by decide) <| ?_
    exact ru_pick [0, 1, 2, 3, 4, 5] rfl (tbb_X8_grantRequests_88 hl0 hd _ hr4 _ _ _ _ _ _ _ _ _ h)
