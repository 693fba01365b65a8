/-! ===== the methods keep to these functions (by program) ===== -/
theorem tm_X12_drain {l : Launch} {g : ab_G} (hl0 : l.stackTraces = false) {d : Nat} (hd : 37 ≤ d) {l0 : Nat} {l1 : Int32} {m : ab_Mm} {z : (Int32 × ab_Mm)} (h : dd_X12_drain l0 l1 m = some z) : ab_Met l g yX12_drain cX12_drain 4 (some .int) [] d [.ref l0, .int l1] m (.inl (some (.int z.1))) z.2 := by
  obtain ⟨d2, rfl⟩ : ∃ d2, d = d2 + 1 := ⟨d - 1, by omega⟩
  exact ab_of hl0 (by decide +kernel) (Nat.le_of_ble_eq_true rfl) (fun q => by cases q) rfl (te_X12_drain hl0 hd _ _ _ _ h)
theorem te_X12_undo {l : Launch} {g : ab_G} (hl0 : l.stackTraces = false) {d2 : Nat} (hd : 2 ≤ d2 + 1)   (l0 : Nat) (m0 : ab_Mm) (z : (Int32 × ab_Mm)) (h : dd_X12_undo  l0 m0 = some z) : ab_W l g cX12_undo RX12 1 (some .int) [] false (d2 + 1) (.inl (some (.int z.1))) z.2 0 [(0, .ref l0)] [] m0 := by
  unfold dd_X12_undo at h
  refine ru_aload_n (i := 0) dX12_undo_0 rfl rfl <| ru_iconst dX12_undo_1 kc_i_0 <| ?_
  refine ru_putI h dX12_undo_2 lk_X12_83 ?_
  intro m1 h
  refine ru_aload_n (i := 0) dX12_undo_5 rfl rfl <| ?_
  refine ru_getI h dX12_undo_6 lk_X12_261 ?_
  intro v2 h
  refine ru_if_ne (tgt := 14) dX12_undo_9 (by decide) (fun hc => ?_) (fun hc => ?_)
  · rw [if_neg hc] at h
    refine ru_aload_n (i := 0) dX12_undo_14 rfl rfl <| ru_dup dX12_undo_15 rfl <| ?_
    refine ru_getI h dX12_undo_16 lk_X12_261 ?_
    intro v3 h
    refine ru_iconst dX12_undo_19 kc_i_1 <| ru_isub dX12_undo_20 <| ?_
    refine ru_putI h dX12_undo_21 lk_X12_261 ?_
    intro m4 h
    refine ru_aload_n (i := 0) dX12_undo_24 rfl rfl <| ?_
    refine ru_getR h dX12_undo_25 lk_X12_64 ?_
    intro v5 h
    refine ru_bipush dX12_undo_28 kc_b_116 <| ru_aload_n (i := 0) dX12_undo_30 rfl rfl <| ?_
    refine ru_getI h dX12_undo_31 lk_X12_261 ?_
    intro v6 h
    refine ru_imul dX12_undo_34 <| ru_aload_n (i := 0) dX12_undo_35 rfl rfl <| ?_
    refine ru_getR h dX12_undo_36 lk_X12_7 ?_
    intro v7 h
    refine ru_iconst dX12_undo_39 kc_i_0 <| ru_bipush dX12_undo_40 kc_b_116 <| ?_
    obtain ⟨q8, hq8, h⟩ := Option.bind_eq_some_iff.mp h
    refine ru_callS (tm_X12_copies hl0 (by omega) hq8) dX12_undo_42 rfl pm_X12_371 mf_X12_copies rfl rfl (Nat.le_of_ble_eq_true rfl) ?_
    refine ru_aload_n (i := 0) dX12_undo_45 rfl rfl <| ?_
    refine ru_getI h dX12_undo_46 lk_X12_261 ?_
    intro v9 h
    cases h
    exact ru_ret (v := some (.int _)) ⟨_, rfl, rfl, dX12_undo_49⟩
  · rw [if_pos hc] at h
    refine ru_iconst dX12_undo_12 kc_i_m1 <| ?_
    cases h
    exact ru_ret (v := some (.int _)) ⟨_, rfl, rfl, dX12_undo_13⟩
theorem tm_X12_undo {l : Launch} {g : ab_G} (hl0 : l.stackTraces = false) {d : Nat} (hd : 2 ≤ d) {l0 : Nat} {m : ab_Mm} {z : (Int32 × ab_Mm)} (h : dd_X12_undo l0 m = some z) : ab_Met l g yX12_undo cX12_undo 1 (some .int) [] d [.ref l0] m (.inl (some (.int z.1))) z.2 := by
  obtain ⟨d2, rfl⟩ : ∃ d2, d = d2 + 1 := ⟨d - 1, by omega⟩
  exact ab_of hl0 (by decide +kernel) (Nat.le_of_ble_eq_true rfl) (fun q => by cases q) rfl (te_X12_undo hl0 hd _ _ _ h)
theorem te_X12_noSlot {l : Launch} {g : ab_G} (hl0 : l.stackTraces = false) {d2 : Nat} (hd : 3 ≤ d2 + 1)   (l0 : Nat) (l1 : Int32) (m0 : ab_Mm) (z : (Int32 × ab_Mm)) (h : dd_X12_noSlot  l0 l1 m0 = some z) : ab_W l g cX12_noSlot RX12 2 (some .boolean) [] false (d2 + 1) (.inl (some (.int z.1))) z.2 0 [(0, .ref l0), (1, .int l1)] [] m0 := by
  unfold dd_X12_noSlot at h
  refine ru_aload_n (i := 0) dX12_noSlot_0 rfl rfl <| ru_iload_n (i := 1) dX12_noSlot_1 rfl rfl <| ru_i2l dX12_noSlot_2 <| ru_iconst dX12_noSlot_3 kc_i_2 <| ?_
  obtain ⟨_, hrc, h⟩ := Option.bind_eq_some_iff.mp h
  obtain ⟨q1, hq1, h⟩ := Option.bind_eq_some_iff.mp h
  refine ru_callV (tm_X12_no hl0 (by omega) hq1) dX12_noSlot_4 rfl pm_X12_285 mf_X12_no (ab_rcv_of hrc rfl) rfl rfl (Nat.le_of_ble_eq_true rfl) ?_
  rcases ab_iff h with ⟨hc, h⟩ | ⟨hc, h⟩
  · cases h
  cases h
  exact ru_ret (v := some (.int _)) ⟨_, rfl, congrArg Value.int (Classical.not_not.mp hc), dX12_noSlot_7⟩
theorem tm_X12_noSlot {l : Launch} {g : ab_G} (hl0 : l.stackTraces = false) {d : Nat} (hd : 3 ≤ d) {l0 : Nat} {l1 : Int32} {m : ab_Mm} {z : (Int32 × ab_Mm)} (h : dd_X12_noSlot l0 l1 m = some z) : ab_Met l g yX12_noSlot cX12_noSlot 2 (some .boolean) [] d [.ref l0, .int l1] m (.inl (some (.int z.1))) z.2 := by
  obtain ⟨d2, rfl⟩ : ∃ d2, d = d2 + 1 := ⟨d - 1, by omega⟩
  exact ab_of hl0 (by decide +kernel) (Nat.le_of_ble_eq_true rfl) (fun q => by cases q) rfl (te_X12_noSlot hl0 hd _ _ _ _ h)
theorem te_X12_saveSnapshot {l : Launch} {g : ab_G} (hl0 : l.stackTraces = false) {d2 : Nat} (hd : 4 ≤ d2 + 1)   (l0 : Nat) (l1 : Int32) (m0 : ab_Mm) (z : (Int32 × ab_Mm)) (h : dd_X12_saveSnapshot  l0 l1 m0 = some z) : ab_W l g cX12_saveSnapshot RX12 3 (some .boolean) [] false (d2 + 1) (.inl (some (.int z.1))) z.2 0 [(0, .ref l0), (1, .int l1)] [] m0 := by
  unfold dd_X12_saveSnapshot at h
  refine ru_aload_n (i := 0) dX12_saveSnapshot_0 rfl rfl <| ru_iload_n (i := 1) dX12_saveSnapshot_1 rfl rfl <| ?_
  obtain ⟨_, hrc, h⟩ := Option.bind_eq_some_iff.mp h
  obtain ⟨q1, hq1, h⟩ := Option.bind_eq_some_iff.mp h
  refine ru_callV (tm_X12_noSlot hl0 (by omega) hq1) dX12_saveSnapshot_2 rfl pm_X12_390 mf_X12_noSlot (ab_rcv_of hrc rfl) rfl rfl (Nat.le_of_ble_eq_true rfl) ?_
  refine ru_if_eq (tgt := 10) dX12_saveSnapshot_5 (by decide) (fun hc => ?_) (fun hc => ?_)
  · rw [if_pos hc] at h
    refine ru_aload_n (i := 0) dX12_saveSnapshot_10 rfl rfl <| ?_
    refine ru_getR h dX12_saveSnapshot_11 lk_X12_70 ?_
    intro v2 h
    refine ru_iload_n (i := 1) dX12_saveSnapshot_14 rfl rfl <| ?_
    refine ru_zaload h dX12_saveSnapshot_15 ?_
    intro v3 h
    refine ru_istore_n (i := 2) dX12_saveSnapshot_16 rfl (by decide) <| ru_aload_n (i := 0) dX12_saveSnapshot_17 rfl rfl <| ?_
    refine ru_getR h dX12_saveSnapshot_18 lk_X12_7 ?_
    intro v4 h
    refine ru_iconst dX12_saveSnapshot_21 kc_i_0 <| ru_aload_n (i := 0) dX12_saveSnapshot_22 rfl rfl <| ?_
    refine ru_getR h dX12_saveSnapshot_23 lk_X12_67 ?_
    intro v5 h
    refine ru_bipush dX12_saveSnapshot_26 kc_b_116 <| ru_iload_n (i := 1) dX12_saveSnapshot_28 rfl rfl <| ru_imul dX12_saveSnapshot_29 <| ru_bipush dX12_saveSnapshot_30 kc_b_116 <| ?_
    obtain ⟨q6, hq6, h⟩ := Option.bind_eq_some_iff.mp h
    refine ru_callS (tm_X12_copies hl0 (by omega) hq6) dX12_saveSnapshot_32 rfl pm_X12_371 mf_X12_copies rfl rfl (Nat.le_of_ble_eq_true rfl) ?_
    refine ru_aload_n (i := 0) dX12_saveSnapshot_35 rfl rfl <| ?_
    refine ru_getR h dX12_saveSnapshot_36 lk_X12_70 ?_
    intro v7 h
    refine ru_iload_n (i := 1) dX12_saveSnapshot_39 rfl rfl <| ru_iconst dX12_saveSnapshot_40 kc_i_1 <| ?_
    refine ru_zastore h dX12_saveSnapshot_41 ?_
    intro m8 h
    refine ru_iload_n (i := 2) dX12_saveSnapshot_42 rfl rfl <| ?_
    rcases ab_iff h with ⟨hc, h⟩ | ⟨hc, h⟩
    · cases h
    cases h
    exact ru_ret (v := some (.int _)) ⟨_, rfl, congrArg Value.int (Classical.not_not.mp hc), dX12_saveSnapshot_43⟩
  · rw [if_neg hc] at h
    refine ru_iconst dX12_saveSnapshot_8 kc_i_0 <| ?_
    cases h
    exact ru_ret (v := some (.int _)) ⟨_, rfl, ab_nz0, dX12_saveSnapshot_9⟩
theorem tm_X12_saveSnapshot {l : Launch} {g : ab_G} (hl0 : l.stackTraces = false) {d : Nat} (hd : 4 ≤ d) {l0 : Nat} {l1 : Int32} {m : ab_Mm} {z : (Int32 × ab_Mm)} (h : dd_X12_saveSnapshot l0 l1 m = some z) : ab_Met l g yX12_saveSnapshot cX12_saveSnapshot 3 (some .boolean) [] d [.ref l0, .int l1] m (.inl (some (.int z.1))) z.2 := by
  obtain ⟨d2, rfl⟩ : ∃ d2, d = d2 + 1 := ⟨d - 1, by omega⟩
  exact ab_of hl0 (by decide +kernel) (Nat.le_of_ble_eq_true rfl) (fun q => by cases q) rfl (te_X12_saveSnapshot hl0 hd _ _ _ _ h)
theorem tbb_X12_restoreSnapshot_30 {l : Launch} {g : ab_G} (hl0 : l.stackTraces = false) {d2 : Nat} (hd : 4 ≤ d2 + 1)    (m0 : ab_Mm) (z : (Int32 × ab_Mm)) (h : bb_X12_restoreSnapshot_30   m0 = some z) : ab_W l g cX12_restoreSnapshot RX12 2 (some .int) [] false (d2 + 1) (.inl (some (.int z.1))) z.2 30 [] [] m0 := by
  unfold bb_X12_restoreSnapshot_30 at h
  refine ru_iconst dX12_restoreSnapshot_30 kc_i_0 <| ?_
  cases h
  exact ru_ret (v := some (.int _)) ⟨_, rfl, rfl, dX12_restoreSnapshot_31⟩
theorem tbb_X12_restoreSnapshot_23 {l : Launch} {g : ab_G} (hl0 : l.stackTraces = false) {d2 : Nat} (hd : 4 ≤ d2 + 1)   (l0 : Nat) (l1 : Int32) (s0 : Nat) (s1 : Int32) (m0 : ab_Mm) (z : (Int32 × ab_Mm)) (h : bb_X12_restoreSnapshot_23  l0 l1 s0 s1 m0 = some z) : ab_W l g cX12_restoreSnapshot RX12 2 (some .int) [] false (d2 + 1) (.inl (some (.int z.1))) z.2 23 [(0, .ref l0), (1, .int l1)] [.int s1, .ref s0] m0 := by
  unfold bb_X12_restoreSnapshot_23 at h
  refine ru_iconst dX12_restoreSnapshot_23 kc_i_2 <| ?_
  obtain ⟨_, hrc, h⟩ := Option.bind_eq_some_iff.mp h
  obtain ⟨q1, hq1, h⟩ := Option.bind_eq_some_iff.mp h
  refine ru_callV (tm_X12_throwsIf hl0 (by omega) hq1) dX12_restoreSnapshot_24 rfl pm_X12_249 mf_X12_throwsIf (ab_rcv_of hrc rfl) rfl rfl (Nat.le_of_ble_eq_true rfl) ?_
  refine ru_if_eq (tgt := 32) dX12_restoreSnapshot_27 (by decide) (fun hc => ?_) (fun hc => ?_)
  · rw [if_pos hc] at h
    refine ru_aload_n (i := 0) dX12_restoreSnapshot_32 rfl rfl <| ?_
    refine ru_getR h dX12_restoreSnapshot_33 lk_X12_67 ?_
    intro v2 h
    refine ru_bipush dX12_restoreSnapshot_36 kc_b_116 <| ru_iload_n (i := 1) dX12_restoreSnapshot_38 rfl rfl <| ru_imul dX12_restoreSnapshot_39 <| ru_aload_n (i := 0) dX12_restoreSnapshot_40 rfl rfl <| ?_
    refine ru_getR h dX12_restoreSnapshot_41 lk_X12_7 ?_
    intro v3 h
    refine ru_iconst dX12_restoreSnapshot_44 kc_i_0 <| ru_bipush dX12_restoreSnapshot_45 kc_b_116 <| ?_
    obtain ⟨q4, hq4, h⟩ := Option.bind_eq_some_iff.mp h
    refine ru_callS (tm_X12_copies hl0 (by omega) hq4) dX12_restoreSnapshot_47 rfl pm_X12_371 mf_X12_copies rfl rfl (Nat.le_of_ble_eq_true rfl) ?_
    refine ru_aload_n (i := 0) dX12_restoreSnapshot_50 rfl rfl <| ru_iconst dX12_restoreSnapshot_51 kc_i_0 <| ?_
    refine ru_putI h dX12_restoreSnapshot_52 lk_X12_261 ?_
    intro m5 h
    refine ru_aload_n (i := 0) dX12_restoreSnapshot_55 rfl rfl <| ?_
    refine ru_getR h dX12_restoreSnapshot_56 lk_X12_7 ?_
    intro v6 h
    refine ru_iconst dX12_restoreSnapshot_59 kc_i_0 <| ?_
    refine ru_laload h dX12_restoreSnapshot_60 ?_
    intro v7 h
    refine ru_l2i dX12_restoreSnapshot_61 <| ?_
    cases h
    exact ru_ret (v := some (.int _)) ⟨_, rfl, rfl, dX12_restoreSnapshot_62⟩
  · rw [if_neg hc] at h
    exact ru_pick [] rfl (tbb_X12_restoreSnapshot_30 hl0 hd    _ _ h)
theorem te_X12_restoreSnapshot {l : Launch} {g : ab_G} (hl0 : l.stackTraces = false) {d2 : Nat} (hd : 4 ≤ d2 + 1)   (l0 : Nat) (l1 : Int32) (m0 : ab_Mm) (z : (Int32 × ab_Mm)) (h : dd_X12_restoreSnapshot  l0 l1 m0 = some z) : ab_W l g cX12_restoreSnapshot RX12 2 (some .int) [] false (d2 + 1) (.inl (some (.int z.1))) z.2 0 [(0, .ref l0), (1, .int l1)] [] m0 := by
  unfold dd_X12_restoreSnapshot at h
  refine ru_aload_n (i := 0) dX12_restoreSnapshot_0 rfl rfl <| ru_iload_n (i := 1) dX12_restoreSnapshot_1 rfl rfl <| ?_
  obtain ⟨_, hrc, h⟩ := Option.bind_eq_some_iff.mp h
  obtain ⟨q1, hq1, h⟩ := Option.bind_eq_some_iff.mp h
  refine ru_callV (tm_X12_noSlot hl0 (by omega) hq1) dX12_restoreSnapshot_2 rfl pm_X12_390 mf_X12_noSlot (ab_rcv_of hrc rfl) rfl rfl (Nat.le_of_ble_eq_true rfl) ?_
  refine ru_if_ne (tgt := 30) dX12_restoreSnapshot_5 (by decide) (fun hc => ?_) (fun hc => ?_)
  · rw [if_neg hc] at h
    exact ru_pick [] rfl (tbb_X12_restoreSnapshot_30 hl0 hd    _ _ h)
  · rw [if_pos hc] at h
    refine ru_aload_n (i := 0) dX12_restoreSnapshot_8 rfl rfl <| ru_aload_n (i := 0) dX12_restoreSnapshot_9 rfl rfl <| ?_
    refine ru_getR h dX12_restoreSnapshot_10 lk_X12_70 ?_
    intro v2 h
    refine ru_iload_n (i := 1) dX12_restoreSnapshot_13 rfl rfl <| ?_
    refine ru_zaload h dX12_restoreSnapshot_14 ?_
    intro v3 h
    refine ru_if_ne (tgt := 22) dX12_restoreSnapshot_15 (by decide) (fun hc => ?_) (fun hc => ?_)
    · rw [if_neg hc] at h
      refine ru_iconst dX12_restoreSnapshot_22 kc_i_0 <| ?_
      exact ru_pick [0, 1] rfl (tbb_X12_restoreSnapshot_23 hl0 hd   _ _ _ _ _ _ h)
    · rw [if_pos hc] at h
      refine ru_iconst dX12_restoreSnapshot_18 kc_i_1 <| ru_goto (tgt := 23) dX12_restoreSnapshot_19 (by decide) <| ?_
      exact ru_pick [0, 1] rfl (tbb_X12_restoreSnapshot_23 hl0 hd   _ _ _ _ _ _ h)
theorem tm_X12_restoreSnapshot {l : Launch} {g : ab_G} (hl0 : l.stackTraces = false) {d : Nat} (hd : 4 ≤ d) {l0 : Nat} {l1 : Int32} {m : ab_Mm} {z : (Int32 × ab_Mm)} (h : dd_X12_restoreSnapshot l0 l1 m = some z) : ab_Met l g yX12_restoreSnapshot cX12_restoreSnapshot 2 (some .int) [] d [.ref l0, .int l1] m (.inl (some (.int z.1))) z.2 := by
  obtain ⟨d2, rfl⟩ : ∃ d2, d = d2 + 1 := ⟨d - 1, by omega⟩
  exact ab_of hl0 (by decide +kernel) (Nat.le_of_ble_eq_true rfl) (fun q => by cases q) rfl (te_X12_restoreSnapshot hl0 hd _ _ _ _ h)
