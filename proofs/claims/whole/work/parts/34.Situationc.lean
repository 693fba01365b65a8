/-! ===== the methods keep to these functions (by program) ===== -/
theorem tbb_X8_grantRequests_69 {l : Launch} {g : ab_G} (hl0 : l.stackTraces = false) {d2 : Nat} (hd : 5 ≤ d2 + 1) (r4 : Nat → Nat → Int32 → Int32 → ab_Mm → Option (Unit × ab_Mm)) (hr4 : ∀ (l0 : Nat) (l1 : Nat) (l2 : Int32) (l3 : Int32) (m : ab_Mm) (z : (Unit × ab_Mm)), r4 l0 l1 l2 l3 m = some z → ab_W l g cX8_grantRequests RX8 8 none [] false (d2 + 1) (.inl none) z.2 4 [(0, .ref l0), (1, .ref l1), (2, .int l2), (3, .int l3)] [] m) (l0 : Nat) (l1 : Nat) (l2 : Int32) (l3 : Int32) (l4 : Int32) (l5 : Int32) (m0 : ab_Mm) (z : (Unit × ab_Mm)) (h : bb_X8_grantRequests_69 r4 l0 l1 l2 l3 l4 l5 m0 = some z) : ab_W l g cX8_grantRequests RX8 8 none [] false (d2 + 1) (.inl none) z.2 69 [(0, .ref l0), (1, .ref l1), (2, .int l2), (3, .int l3), (4, .int l4), (5, .int l5)] [] m0 := by
  unfold bb_X8_grantRequests_69 at h
  refine ru_iconst dX8_grantRequests_69 kc_i_0 <| ?_
  exact ru_pick [0, 1, 2, 3, 4, 5] rfl (tbb_X8_grantRequests_70 hl0 hd _ hr4 _ _ _ _ _ _ _ _ _ h)
theorem tbb_X8_grantRequests_4 {l : Launch} {g : ab_G} (hl0 : l.stackTraces = false) {d2 : Nat} (hd : 5 ≤ d2 + 1)   : ∀ (n : Nat) (l0 : Nat) (l1 : Nat) (l2 : Int32) (l3 : Int32) (m0 : ab_Mm) (z : (Unit × ab_Mm)), bb_X8_grantRequests_4  n l0 l1 l2 l3 m0 = some z → ab_W l g cX8_grantRequests RX8 8 none [] false (d2 + 1) (.inl none) z.2 4 [(0, .ref l0), (1, .ref l1), (2, .int l2), (3, .int l3)] [] m0 := by
  intro n
  induction n with
  | zero => intro l0 l1 l2 l3 m0 z h; cases h
  | succ n ih =>
    intro l0 l1 l2 l3 m0 z h
    rw [bb_X8_grantRequests_4] at h
    refine ru_iload_n (i := 3) dX8_grantRequests_4 rfl rfl <| ru_bipush dX8_grantRequests_5 kc_b_10 <| ?_
    refine ru_icmp_ge (tgt := 137) dX8_grantRequests_7 (by decide) (fun hc => ?_) (fun hc => ?_)
    · rw [if_pos hc] at h
      exact ru_pick [] rfl (tbb_X8_grantRequests_137 hl0 hd    _ _ h)
    · rw [if_neg hc] at h
      refine ru_iload_n (i := 2) dX8_grantRequests_10 rfl rfl <| ru_aload_n (i := 0) dX8_grantRequests_11 rfl rfl <| ?_
      refine ru_getR h dX8_grantRequests_12 lk_X8_27 ?_
      intro v1 h
      refine ru_getI h dX8_grantRequests_15 lk_X8_103 ?_
      intro v2 h
      refine ru_icmp_ge (tgt := 137) dX8_grantRequests_18 (by decide) (fun hc => ?_) (fun hc => ?_)
      · rw [if_pos hc] at h
        exact ru_pick [] rfl (tbb_X8_grantRequests_137 hl0 hd    _ _ h)
      · rw [if_neg hc] at h
        refine ru_aload_n (i := 0) dX8_grantRequests_21 rfl rfl <| ?_
        refine ru_getR h dX8_grantRequests_22 lk_X8_27 ?_
        intro v3 h
        refine ru_iload_n (i := 2) dX8_grantRequests_25 rfl rfl <| ru_iconst dX8_grantRequests_26 kc_i_1 <| ?_
        obtain ⟨_, hrc, h⟩ := Option.bind_eq_some_iff.mp h
        obtain ⟨q4, hq4, h⟩ := Option.bind_eq_some_iff.mp h
        refine ru_callV (tm_X10_get hl0 (by omega) hq4) dX8_grantRequests_27 rfl pm_X8_79 mf_X10_get (ab_rcv_of hrc rfl) rfl rfl (Nat.le_of_ble_eq_true rfl) ?_
        refine ru_istore dX8_grantRequests_30 (by decide) <| ru_aload_n (i := 0) dX8_grantRequests_32 rfl rfl <| ?_
        refine ru_getR h dX8_grantRequests_33 lk_X8_27 ?_
        intro v5 h
        refine ru_iload_n (i := 2) dX8_grantRequests_36 rfl rfl <| ru_iconst dX8_grantRequests_37 kc_i_2 <| ?_
        obtain ⟨_, hrc, h⟩ := Option.bind_eq_some_iff.mp h
        obtain ⟨q6, hq6, h⟩ := Option.bind_eq_some_iff.mp h
        refine ru_callV (tm_X10_get hl0 (by omega) hq6) dX8_grantRequests_38 rfl pm_X8_79 mf_X10_get (ab_rcv_of hrc rfl) rfl rfl (Nat.le_of_ble_eq_true rfl) ?_
        refine ru_istore dX8_grantRequests_41 (by decide) <| ru_iload dX8_grantRequests_43 rfl <| ru_aload_n (i := 0) dX8_grantRequests_45 rfl rfl <| ?_
        refine ru_getR h dX8_grantRequests_46 lk_X8_30 ?_
        intro v7 h
        refine ru_iload dX8_grantRequests_49 rfl <| ru_iconst dX8_grantRequests_51 kc_i_0 <| ?_
        obtain ⟨_, hrc, h⟩ := Option.bind_eq_some_iff.mp h
        obtain ⟨q8, hq8, h⟩ := Option.bind_eq_some_iff.mp h
        refine ru_callV (tm_X10_get hl0 (by omega) hq8) dX8_grantRequests_52 rfl pm_X8_79 mf_X10_get (ab_rcv_of hrc rfl) rfl rfl (Nat.le_of_ble_eq_true rfl) ?_
        refine ru_icmp_lt (tgt := 69) dX8_grantRequests_55 (by decide) (fun hc => ?_) (fun hc => ?_)
        · rw [if_pos hc] at h
          exact ru_pick [0, 1, 2, 3, 4, 5] rfl (tbb_X8_grantRequests_69 hl0 hd _ ih _ _ _ _ _ _ _ _ h)
        · rw [if_neg hc] at h
          refine ru_aload_n (i := 0) dX8_grantRequests_58 rfl rfl <| ?_
          obtain ⟨_, hrc, h⟩ := Option.bind_eq_some_iff.mp h
          obtain ⟨q9, hq9, h⟩ := Option.bind_eq_some_iff.mp h
          refine ru_callV (tm_X8_isFull hl0 (by omega) hq9) dX8_grantRequests_59 rfl pm_X8_174 mf_X8_isFull (ab_rcv_of hrc rfl) rfl rfl (Nat.le_of_ble_eq_true rfl) ?_
          refine ru_if_ne (tgt := 69) dX8_grantRequests_62 (by decide) (fun hc => ?_) (fun hc => ?_)
          · rw [if_neg hc] at h
            exact ru_pick [0, 1, 2, 3, 4, 5] rfl (tbb_X8_grantRequests_69 hl0 hd _ ih _ _ _ _ _ _ _ _ h)
          · rw [if_pos hc] at h
            refine ru_iconst dX8_grantRequests_65 kc_i_1 <| ru_goto (tgt := 70) dX8_grantRequests_66 (by decide) <| ?_
            exact ru_pick [0, 1, 2, 3, 4, 5] rfl (tbb_X8_grantRequests_70 hl0 hd _ ih _ _ _ _ _ _ _ _ _ h)
theorem te_X8_grantRequests {l : Launch} {g : ab_G} (hl0 : l.stackTraces = false) {d2 : Nat} (hd : 5 ≤ d2 + 1)   (l0 : Nat) (l1 : Nat) (m0 : ab_Mm) (z : (Unit × ab_Mm)) (h : dd_X8_grantRequests  l0 l1 m0 = some z) : ab_W l g cX8_grantRequests RX8 8 none [] false (d2 + 1) (.inl none) z.2 0 [(0, .ref l0), (1, .ref l1)] [] m0 := by
  unfold dd_X8_grantRequests at h
  refine ru_iconst dX8_grantRequests_0 kc_i_0 <| ru_istore_n (i := 2) dX8_grantRequests_1 rfl (by decide) <| ru_iconst dX8_grantRequests_2 kc_i_0 <| ru_istore_n (i := 3) dX8_grantRequests_3 rfl (by decide) <| ?_
  exact ru_pick [0, 1, 2, 3] rfl (tbb_X8_grantRequests_4 hl0 hd   _ _ _ _ _ _ _ h)
theorem tm_X8_grantRequests {l : Launch} {g : ab_G} (hl0 : l.stackTraces = false) {d : Nat} (hd : 5 ≤ d) {l0 : Nat} {l1 : Nat} {m : ab_Mm} {z : (Unit × ab_Mm)} (h : dd_X8_grantRequests l0 l1 m = some z) : ab_Met l g yX8_grantRequests cX8_grantRequests 8 none [] d [.ref l0, .ref l1] m (.inl none) z.2 := by
  obtain ⟨d2, rfl⟩ : ∃ d2, d = d2 + 1 := ⟨d - 1, by omega⟩
  exact ab_of hl0 (by decide +kernel) (Nat.le_of_ble_eq_true rfl) (fun q => by cases q) rfl (te_X8_grantRequests hl0 hd _ _ _ _ h)
theorem te_X8_nextHour {l : Launch} {g : ab_G} (hl0 : l.stackTraces = false) {d2 : Nat} (hd : 6 ≤ d2 + 1)   (l0 : Nat) (l1 : Nat) (m0 : ab_Mm) (z : (Int32 × ab_Mm)) (h : dd_X8_nextHour  l0 l1 m0 = some z) : ab_W l g cX8_nextHour RX8 3 (some .int) [] false (d2 + 1) (.inl (some (.int z.1))) z.2 0 [(0, .ref l0), (1, .ref l1)] [] m0 := by
  unfold dd_X8_nextHour at h
  refine ru_aload_n (i := 0) dX8_nextHour_0 rfl rfl <| ru_dup dX8_nextHour_1 rfl <| ?_
  refine ru_getI h dX8_nextHour_2 lk_X8_9 ?_
  intro v1 h
  refine ru_iconst dX8_nextHour_5 kc_i_1 <| ru_iadd dX8_nextHour_6 <| ?_
  refine ru_putI h dX8_nextHour_7 lk_X8_9 ?_
  intro m2 h
  refine ru_aload_n (i := 0) dX8_nextHour_10 rfl rfl <| ru_aload_n (i := 1) dX8_nextHour_11 rfl rfl <| ?_
  obtain ⟨_, hrc, h⟩ := Option.bind_eq_some_iff.mp h
  obtain ⟨q3, hq3, h⟩ := Option.bind_eq_some_iff.mp h
  refine ru_callV (tm_X8_endDue hl0 (by omega) hq3) dX8_nextHour_12 rfl pm_X8_151 mf_X8_endDue (ab_rcv_of hrc rfl) rfl rfl (Nat.le_of_ble_eq_true rfl) ?_
  refine ru_istore_n (i := 2) dX8_nextHour_15 rfl (by decide) <| ru_aload_n (i := 0) dX8_nextHour_16 rfl rfl <| ru_aload_n (i := 1) dX8_nextHour_17 rfl rfl <| ?_
  obtain ⟨_, hrc, h⟩ := Option.bind_eq_some_iff.mp h
  obtain ⟨q4, hq4, h⟩ := Option.bind_eq_some_iff.mp h
  refine ru_callV (tm_X8_setPrices hl0 (by omega) hq4) dX8_nextHour_18 rfl pm_X8_49 mf_X8_setPrices (ab_rcv_of hrc rfl) rfl rfl (Nat.le_of_ble_eq_true rfl) ?_
  refine ru_aload_n (i := 0) dX8_nextHour_21 rfl rfl <| ru_aload_n (i := 1) dX8_nextHour_22 rfl rfl <| ?_
  obtain ⟨_, hrc, h⟩ := Option.bind_eq_some_iff.mp h
  obtain ⟨q5, hq5, h⟩ := Option.bind_eq_some_iff.mp h
  refine ru_callV (tm_X8_setNotices hl0 (by omega) hq5) dX8_nextHour_23 rfl pm_X8_155 mf_X8_setNotices (ab_rcv_of hrc rfl) rfl rfl (Nat.le_of_ble_eq_true rfl) ?_
  refine ru_aload_n (i := 0) dX8_nextHour_26 rfl rfl <| ru_aload_n (i := 1) dX8_nextHour_27 rfl rfl <| ?_
  obtain ⟨_, hrc, h⟩ := Option.bind_eq_some_iff.mp h
  obtain ⟨q6, hq6, h⟩ := Option.bind_eq_some_iff.mp h
  refine ru_callV (tm_X8_grantRequests hl0 (by omega) hq6) dX8_nextHour_28 rfl pm_X8_158 mf_X8_grantRequests (ab_rcv_of hrc rfl) rfl rfl (Nat.le_of_ble_eq_true rfl) ?_
  refine ru_iload_n (i := 2) dX8_nextHour_31 rfl rfl <| ?_
  cases h
  exact ru_ret (v := some (.int _)) ⟨_, rfl, rfl, dX8_nextHour_32⟩
theorem tm_X8_nextHour {l : Launch} {g : ab_G} (hl0 : l.stackTraces = false) {d : Nat} (hd : 6 ≤ d) {l0 : Nat} {l1 : Nat} {m : ab_Mm} {z : (Int32 × ab_Mm)} (h : dd_X8_nextHour l0 l1 m = some z) : ab_Met l g yX8_nextHour cX8_nextHour 3 (some .int) [] d [.ref l0, .ref l1] m (.inl (some (.int z.1))) z.2 := by
  obtain ⟨d2, rfl⟩ : ∃ d2, d = d2 + 1 := ⟨d - 1, by omega⟩
  exact ab_of hl0 (by decide +kernel) (Nat.le_of_ble_eq_true rfl) (fun q => by cases q) rfl (te_X8_nextHour hl0 hd _ _ _ _ h)
