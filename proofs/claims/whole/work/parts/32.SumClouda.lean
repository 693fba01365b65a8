/-! ===== the methods keep to these functions (by program) ===== -/
theorem tbb_X1_isActive_31 {l : Launch} {g : ab_G} (hl0 : l.stackTraces = false) {d2 : Nat} (hd : 2 ≤ d2 + 1)   (s0 : Int32) (m0 : ab_Mm) (z : (Int32 × ab_Mm)) (h : bb_X1_isActive_31  s0 m0 = some z) : ab_W l g cX1_isActive RX1 3 (some .boolean) [] false (d2 + 1) (.inl (some (.int z.1))) z.2 31 [] [.int s0] m0 := by
  unfold bb_X1_isActive_31 at h
  rcases ab_iff h with ⟨hc, h⟩ | ⟨hc, h⟩
  · cases h
  cases h
  exact ru_ret (v := some (.int _)) ⟨_, rfl, congrArg Value.int (Classical.not_not.mp hc), dX1_isActive_31⟩
theorem tbb_X1_isActive_30 {l : Launch} {g : ab_G} (hl0 : l.stackTraces = false) {d2 : Nat} (hd : 2 ≤ d2 + 1)    (m0 : ab_Mm) (z : (Int32 × ab_Mm)) (h : bb_X1_isActive_30   m0 = some z) : ab_W l g cX1_isActive RX1 3 (some .boolean) [] false (d2 + 1) (.inl (some (.int z.1))) z.2 30 [] [] m0 := by
  unfold bb_X1_isActive_30 at h
  refine ru_iconst dX1_isActive_30 kc_i_0 <| ?_
  exact ru_pick [] rfl (tbb_X1_isActive_31 hl0 hd   _ _ _ h)
theorem te_X1_isActive {l : Launch} {g : ab_G} (hl0 : l.stackTraces = false) {d2 : Nat} (hd : 2 ≤ d2 + 1)   (l0 : Nat) (l1 : Int32) (l2 : Int32) (m0 : ab_Mm) (z : (Int32 × ab_Mm)) (h : dd_X1_isActive  l0 l1 l2 m0 = some z) : ab_W l g cX1_isActive RX1 3 (some .boolean) [] false (d2 + 1) (.inl (some (.int z.1))) z.2 0 [(0, .ref l0), (1, .int l1), (2, .int l2)] [] m0 := by
  unfold dd_X1_isActive at h
  refine ru_aload_n (i := 0) dX1_isActive_0 rfl rfl <| ?_
  refine ru_getR h dX1_isActive_1 lk_X1_26 ?_
  intro v1 h
  refine ru_iload_n (i := 1) dX1_isActive_4 rfl rfl <| ru_iconst dX1_isActive_5 kc_i_3 <| ?_
  obtain ⟨_, hrc, h⟩ := Option.bind_eq_some_iff.mp h
  obtain ⟨q2, hq2, h⟩ := Option.bind_eq_some_iff.mp h
  refine ru_callV (tm_X10_get hl0 (by omega) hq2) dX1_isActive_6 rfl pm_X1_61 mf_X10_get (ab_rcv_of hrc rfl) rfl rfl (Nat.le_of_ble_eq_true rfl) ?_
  refine ru_iload_n (i := 2) dX1_isActive_9 rfl rfl <| ?_
  refine ru_icmp_gt (tgt := 30) dX1_isActive_10 (by decide) (fun hc => ?_) (fun hc => ?_)
  · rw [if_pos hc] at h
    exact ru_pick [] rfl (tbb_X1_isActive_30 hl0 hd    _ _ h)
  · rw [if_neg hc] at h
    refine ru_iload_n (i := 2) dX1_isActive_13 rfl rfl <| ru_aload_n (i := 0) dX1_isActive_14 rfl rfl <| ?_
    refine ru_getR h dX1_isActive_15 lk_X1_26 ?_
    intro v3 h
    refine ru_iload_n (i := 1) dX1_isActive_18 rfl rfl <| ru_iconst dX1_isActive_19 kc_i_4 <| ?_
    obtain ⟨_, hrc, h⟩ := Option.bind_eq_some_iff.mp h
    obtain ⟨q4, hq4, h⟩ := Option.bind_eq_some_iff.mp h
    refine ru_callV (tm_X10_get hl0 (by omega) hq4) dX1_isActive_20 rfl pm_X1_61 mf_X10_get (ab_rcv_of hrc rfl) rfl rfl (Nat.le_of_ble_eq_true rfl) ?_
    refine ru_icmp_ge (tgt := 30) dX1_isActive_23 (by decide) (fun hc => ?_) (fun hc => ?_)
    · rw [if_pos hc] at h
      exact ru_pick [] rfl (tbb_X1_isActive_30 hl0 hd    _ _ h)
    · rw [if_neg hc] at h
      refine ru_iconst dX1_isActive_26 kc_i_1 <| ru_goto (tgt := 31) dX1_isActive_27 (by decide) <| ?_
      exact ru_pick [] rfl (tbb_X1_isActive_31 hl0 hd   _ _ _ h)
theorem tm_X1_isActive {l : Launch} {g : ab_G} (hl0 : l.stackTraces = false) {d : Nat} (hd : 2 ≤ d) {l0 : Nat} {l1 : Int32} {l2 : Int32} {m : ab_Mm} {z : (Int32 × ab_Mm)} (h : dd_X1_isActive l0 l1 l2 m = some z) : ab_Met l g yX1_isActive cX1_isActive 3 (some .boolean) [] d [.ref l0, .int l1, .int l2] m (.inl (some (.int z.1))) z.2 := by
  obtain ⟨d2, rfl⟩ : ∃ d2, d = d2 + 1 := ⟨d - 1, by omega⟩
  exact ab_of hl0 (by decide +kernel) (Nat.le_of_ble_eq_true rfl) (fun q => by cases q) rfl (te_X1_isActive hl0 hd _ _ _ _ _ h)
theorem te_X1_payment {l : Launch} {g : ab_G} (hl0 : l.stackTraces = false) {d2 : Nat} (hd : 2 ≤ d2 + 1)   (l0 : Nat) (l1 : Int32) (m0 : ab_Mm) (z : (Int32 × ab_Mm)) (h : dd_X1_payment  l0 l1 m0 = some z) : ab_W l g cX1_payment RX1 4 (some .int) [] false (d2 + 1) (.inl (some (.int z.1))) z.2 0 [(0, .ref l0), (1, .int l1)] [] m0 := by
  unfold dd_X1_payment at h
  refine ru_aload_n (i := 0) dX1_payment_0 rfl rfl <| ?_
  refine ru_getR h dX1_payment_1 lk_X1_20 ?_
  intro v1 h
  refine ru_aload_n (i := 0) dX1_payment_4 rfl rfl <| ?_
  refine ru_getR h dX1_payment_5 lk_X1_26 ?_
  intro v2 h
  refine ru_iload_n (i := 1) dX1_payment_8 rfl rfl <| ru_iconst dX1_payment_9 kc_i_1 <| ?_
  obtain ⟨_, hrc, h⟩ := Option.bind_eq_some_iff.mp h
  obtain ⟨q3, hq3, h⟩ := Option.bind_eq_some_iff.mp h
  refine ru_callV (tm_X10_get hl0 (by omega) hq3) dX1_payment_10 rfl pm_X1_61 mf_X10_get (ab_rcv_of hrc rfl) rfl rfl (Nat.le_of_ble_eq_true rfl) ?_
  refine ru_iconst dX1_payment_13 kc_i_2 <| ?_
  obtain ⟨_, hrc, h⟩ := Option.bind_eq_some_iff.mp h
  obtain ⟨q4, hq4, h⟩ := Option.bind_eq_some_iff.mp h
  refine ru_callV (tm_X10_get hl0 (by omega) hq4) dX1_payment_14 rfl pm_X1_61 mf_X10_get (ab_rcv_of hrc rfl) rfl rfl (Nat.le_of_ble_eq_true rfl) ?_
  refine ru_istore_n (i := 2) dX1_payment_17 rfl (by decide) <| ru_iload_n (i := 2) dX1_payment_18 rfl rfl <| ru_bipush dX1_payment_19 kc_b_100 <| ru_aload_n (i := 0) dX1_payment_21 rfl rfl <| ?_
  refine ru_getR h dX1_payment_22 lk_X1_26 ?_
  intro v5 h
  refine ru_iload_n (i := 1) dX1_payment_25 rfl rfl <| ru_iconst dX1_payment_26 kc_i_5 <| ?_
  obtain ⟨_, hrc, h⟩ := Option.bind_eq_some_iff.mp h
  obtain ⟨q6, hq6, h⟩ := Option.bind_eq_some_iff.mp h
  refine ru_callV (tm_X10_get hl0 (by omega) hq6) dX1_payment_27 rfl pm_X1_61 mf_X10_get (ab_rcv_of hrc rfl) rfl rfl (Nat.le_of_ble_eq_true rfl) ?_
  refine ru_isub dX1_payment_30 <| ru_imul dX1_payment_31 <| ru_bipush dX1_payment_32 kc_b_100 <| ?_
  rcases ab_iff h with ⟨hc, h⟩ | ⟨hc, h⟩
  · cases h
  refine ru_idiv dX1_payment_34 hc ?_
  refine ru_istore_n (i := 3) dX1_payment_35 rfl (by decide) <| ru_aload_n (i := 0) dX1_payment_36 rfl rfl <| ?_
  refine ru_getR h dX1_payment_37 lk_X1_26 ?_
  intro v7 h
  refine ru_iload_n (i := 1) dX1_payment_40 rfl rfl <| ru_iconst dX1_payment_41 kc_i_2 <| ?_
  obtain ⟨_, hrc, h⟩ := Option.bind_eq_some_iff.mp h
  obtain ⟨q8, hq8, h⟩ := Option.bind_eq_some_iff.mp h
  refine ru_callV (tm_X10_get hl0 (by omega) hq8) dX1_payment_42 rfl pm_X1_61 mf_X10_get (ab_rcv_of hrc rfl) rfl rfl (Nat.le_of_ble_eq_true rfl) ?_
  refine ru_iload_n (i := 3) dX1_payment_45 rfl rfl <| ru_imul dX1_payment_46 <| ?_
  cases h
  exact ru_ret (v := some (.int _)) ⟨_, rfl, rfl, dX1_payment_47⟩
theorem tm_X1_payment {l : Launch} {g : ab_G} (hl0 : l.stackTraces = false) {d : Nat} (hd : 2 ≤ d) {l0 : Nat} {l1 : Int32} {m : ab_Mm} {z : (Int32 × ab_Mm)} (h : dd_X1_payment l0 l1 m = some z) : ab_Met l g yX1_payment cX1_payment 4 (some .int) [] d [.ref l0, .int l1] m (.inl (some (.int z.1))) z.2 := by
  obtain ⟨d2, rfl⟩ : ∃ d2, d = d2 + 1 := ⟨d - 1, by omega⟩
  exact ab_of hl0 (by decide +kernel) (Nat.le_of_ble_eq_true rfl) (fun q => by cases q) rfl (te_X1_payment hl0 hd _ _ _ _ h)
theorem te_X9_init {l : Launch} {g : ab_G} (hl0 : l.stackTraces = false) {d2 : Nat} (hd : 1 ≤ d2 + 1)   (l0 : Nat) (m0 : ab_Mm) (z : (Unit × ab_Mm)) (h : dd_X9_init  l0 m0 = some z) : ab_W l g cX9_init RX9 1 none [] true (d2 + 1) (.inl none) z.2 0 [(0, .ref l0)] [] m0 := by
  unfold dd_X9_init at h
  refine ru_aload_n (i := 0) dX9_init_0 rfl rfl <| ru_objInit dX9_init_1 ⟨pm_X9_3, po_inst, po_code⟩ (Nat.le_of_ble_eq_true rfl) <| ru_aload_n (i := 0) dX9_init_4 rfl rfl <| ru_sipush dX9_init_5 kc_s_800 <| ?_
  refine ru_newI h dX9_init_8 fa_int ?_
  intro q1 h
  refine ru_putR h dX9_init_10 lk_X9_9 (fun _ => ⟨rfl, rfl⟩) rfl (fun q hq => by cases hq; rfl) (fun q hq => by cases hq; exact pf_X9_9) ?_
  intro m2 h
  refine ru_aload_n (i := 0) dX9_init_13 rfl rfl <| ru_iconst dX9_init_14 kc_i_0 <| ?_
  refine ru_putI h dX9_init_15 lk_X9_15 ?_
  intro m3 h
  refine ru_aload_n (i := 0) dX9_init_18 rfl rfl <| ru_bipush dX9_init_19 kc_b_16 <| ?_
  refine ru_newI h dX9_init_21 fa_int ?_
  intro q4 h
  refine ru_putR h dX9_init_23 lk_X9_19 (fun _ => ⟨rfl, rfl⟩) rfl (fun q hq => by cases hq; rfl) (fun q hq => by cases hq; exact pf_X9_19) ?_
  intro m5 h
  cases h
  exact ru_ret (v := none) ⟨rfl, dX9_init_26⟩
theorem tm_X9_init {l : Launch} {g : ab_G} (hl0 : l.stackTraces = false) {d : Nat} (hd : 1 ≤ d) {l0 : Nat} {m : ab_Mm} {z : (Unit × ab_Mm)} (h : dd_X9_init l0 m = some z) : ab_Met l g yX9_init cX9_init 1 none [] d [.ref l0] m (.inl none) z.2 := by
  obtain ⟨d2, rfl⟩ : ∃ d2, d = d2 + 1 := ⟨d - 1, by omega⟩
  exact ab_of hl0 (by decide +kernel) (Nat.le_of_ble_eq_true rfl) (fun _ => rfl) rfl (te_X9_init hl0 hd _ _ _ h)
theorem te_X9_clear {l : Launch} {g : ab_G} (hl0 : l.stackTraces = false) {d2 : Nat} (hd : 1 ≤ d2 + 1)   (l0 : Nat) (m0 : ab_Mm) (z : (Unit × ab_Mm)) (h : dd_X9_clear  l0 m0 = some z) : ab_W l g cX9_clear RX9 1 none [] false (d2 + 1) (.inl none) z.2 0 [(0, .ref l0)] [] m0 := by
  unfold dd_X9_clear at h
  refine ru_aload_n (i := 0) dX9_clear_0 rfl rfl <| ru_iconst dX9_clear_1 kc_i_0 <| ?_
  refine ru_putI h dX9_clear_2 lk_X9_15 ?_
  intro m1 h
  cases h
  exact ru_ret (v := none) ⟨rfl, dX9_clear_5⟩
theorem tm_X9_clear {l : Launch} {g : ab_G} (hl0 : l.stackTraces = false) {d : Nat} (hd : 1 ≤ d) {l0 : Nat} {m : ab_Mm} {z : (Unit × ab_Mm)} (h : dd_X9_clear l0 m = some z) : ab_Met l g yX9_clear cX9_clear 1 none [] d [.ref l0] m (.inl none) z.2 := by
  obtain ⟨d2, rfl⟩ : ∃ d2, d = d2 + 1 := ⟨d - 1, by omega⟩
  exact ab_of hl0 (by decide +kernel) (Nat.le_of_ble_eq_true rfl) (fun q => by cases q) rfl (te_X9_clear hl0 hd _ _ _ h)
theorem tbb_X9_add_39 {l : Launch} {g : ab_G} (hl0 : l.stackTraces = false) {d2 : Nat} (hd : 1 ≤ d2 + 1)    (m0 : ab_Mm) (z : (Unit × ab_Mm)) (h : bb_X9_add_39   m0 = some z) : ab_W l g cX9_add RX9 2 none [] false (d2 + 1) (.inl none) z.2 39 [] [] m0 := by
  unfold bb_X9_add_39 at h
  cases h
  exact ru_ret (v := none) ⟨rfl, dX9_add_39⟩
theorem te_X9_add {l : Launch} {g : ab_G} (hl0 : l.stackTraces = false) {d2 : Nat} (hd : 1 ≤ d2 + 1)   (l0 : Nat) (l1 : Int32) (m0 : ab_Mm) (z : (Unit × ab_Mm)) (h : dd_X9_add  l0 l1 m0 = some z) : ab_W l g cX9_add RX9 2 none [] false (d2 + 1) (.inl none) z.2 0 [(0, .ref l0), (1, .int l1)] [] m0 := by
  unfold dd_X9_add at h
  refine ru_aload_n (i := 0) dX9_add_0 rfl rfl <| ?_
  refine ru_getI h dX9_add_1 lk_X9_15 ?_
  intro v1 h
  refine ru_if_lt (tgt := 39) dX9_add_4 (by decide) (fun hc => ?_) (fun hc => ?_)
  · rw [if_pos hc] at h
    exact ru_pick [] rfl (tbb_X9_add_39 hl0 hd    _ _ h)
  · rw [if_neg hc] at h
    refine ru_aload_n (i := 0) dX9_add_7 rfl rfl <| ?_
    refine ru_getI h dX9_add_8 lk_X9_15 ?_
    intro v2 h
    refine ru_aload_n (i := 0) dX9_add_11 rfl rfl <| ?_
    refine ru_getR h dX9_add_12 lk_X9_9 ?_
    intro v3 h
    refine ru_alen 0 h dX9_add_15 ?_
    intro v4 h
    refine ru_icmp_ge (tgt := 39) dX9_add_16 (by decide) (fun hc => ?_) (fun hc => ?_)
    · rw [if_pos hc] at h
      exact ru_pick [] rfl (tbb_X9_add_39 hl0 hd    _ _ h)
    · rw [if_neg hc] at h
      refine ru_aload_n (i := 0) dX9_add_19 rfl rfl <| ?_
      refine ru_getR h dX9_add_20 lk_X9_9 ?_
      intro v5 h
      refine ru_aload_n (i := 0) dX9_add_23 rfl rfl <| ?_
      refine ru_getI h dX9_add_24 lk_X9_15 ?_
      intro v6 h
      refine ru_iload_n (i := 1) dX9_add_27 rfl rfl <| ?_
      refine ru_iastore h dX9_add_28 ?_
      intro m7 h
      refine ru_aload_n (i := 0) dX9_add_29 rfl rfl <| ru_dup dX9_add_30 rfl <| ?_
      refine ru_getI h dX9_add_31 lk_X9_15 ?_
      intro v8 h
      refine ru_iconst dX9_add_34 kc_i_1 <| ru_iadd dX9_add_35 <| ?_
      refine ru_putI h dX9_add_36 lk_X9_15 ?_
      intro m9 h
      exact ru_pick [] rfl (tbb_X9_add_39 hl0 hd    _ _ h)
theorem tm_X9_add {l : Launch} {g : ab_G} (hl0 : l.stackTraces = false) {d : Nat} (hd : 1 ≤ d) {l0 : Nat} {l1 : Int32} {m : ab_Mm} {z : (Unit × ab_Mm)} (h : dd_X9_add l0 l1 m = some z) : ab_Met l g yX9_add cX9_add 2 none [] d [.ref l0, .int l1] m (.inl none) z.2 := by
  obtain ⟨d2, rfl⟩ : ∃ d2, d = d2 + 1 := ⟨d - 1, by omega⟩
  exact ab_of hl0 (by decide +kernel) (Nat.le_of_ble_eq_true rfl) (fun q => by cases q) rfl (te_X9_add hl0 hd _ _ _ _ h)
theorem te_X1_reset {l : Launch} {g : ab_G} (hl0 : l.stackTraces = false) {d2 : Nat} (hd : 3 ≤ d2 + 1)   (l0 : Nat) (m0 : ab_Mm) (z : (Unit × ab_Mm)) (h : dd_X1_reset  l0 m0 = some z) : ab_W l g cX1_reset RX1 1 none [] false (d2 + 1) (.inl none) z.2 0 [(0, .ref l0)] [] m0 := by
  unfold dd_X1_reset at h
  refine ru_aload_n (i := 0) dX1_reset_0 rfl rfl <| ?_
  refine ru_getR h dX1_reset_1 lk_X1_14 ?_
  intro v1 h
  obtain ⟨_, hrc, h⟩ := Option.bind_eq_some_iff.mp h
  obtain ⟨q2, hq2, h⟩ := Option.bind_eq_some_iff.mp h
  refine ru_callV (tm_X10_clear hl0 (by omega) hq2) dX1_reset_4 rfl pm_X1_42 mf_X10_clear (ab_rcv_of hrc rfl) rfl rfl (Nat.le_of_ble_eq_true rfl) ?_
  refine ru_aload_n (i := 0) dX1_reset_7 rfl rfl <| ?_
  refine ru_getR h dX1_reset_8 lk_X1_20 ?_
  intro v3 h
  obtain ⟨_, hrc, h⟩ := Option.bind_eq_some_iff.mp h
  obtain ⟨q4, hq4, h⟩ := Option.bind_eq_some_iff.mp h
  refine ru_callV (tm_X10_clear hl0 (by omega) hq4) dX1_reset_11 rfl pm_X1_42 mf_X10_clear (ab_rcv_of hrc rfl) rfl rfl (Nat.le_of_ble_eq_true rfl) ?_
  refine ru_aload_n (i := 0) dX1_reset_14 rfl rfl <| ?_
  refine ru_getR h dX1_reset_15 lk_X1_23 ?_
  intro v5 h
  obtain ⟨_, hrc, h⟩ := Option.bind_eq_some_iff.mp h
  obtain ⟨q6, hq6, h⟩ := Option.bind_eq_some_iff.mp h
  refine ru_callV (tm_X10_clear hl0 (by omega) hq6) dX1_reset_18 rfl pm_X1_42 mf_X10_clear (ab_rcv_of hrc rfl) rfl rfl (Nat.le_of_ble_eq_true rfl) ?_
  refine ru_aload_n (i := 0) dX1_reset_21 rfl rfl <| ?_
  refine ru_getR h dX1_reset_22 lk_X1_26 ?_
  intro v7 h
  obtain ⟨_, hrc, h⟩ := Option.bind_eq_some_iff.mp h
  obtain ⟨q8, hq8, h⟩ := Option.bind_eq_some_iff.mp h
  refine ru_callV (tm_X10_clear hl0 (by omega) hq8) dX1_reset_25 rfl pm_X1_42 mf_X10_clear (ab_rcv_of hrc rfl) rfl rfl (Nat.le_of_ble_eq_true rfl) ?_
  refine ru_aload_n (i := 0) dX1_reset_28 rfl rfl <| ?_
  refine ru_getR h dX1_reset_29 lk_X1_29 ?_
  intro v9 h
  obtain ⟨_, hrc, h⟩ := Option.bind_eq_some_iff.mp h
  obtain ⟨q10, hq10, h⟩ := Option.bind_eq_some_iff.mp h
  refine ru_callV (tm_X10_clear hl0 (by omega) hq10) dX1_reset_32 rfl pm_X1_42 mf_X10_clear (ab_rcv_of hrc rfl) rfl rfl (Nat.le_of_ble_eq_true rfl) ?_
  refine ru_aload_n (i := 0) dX1_reset_35 rfl rfl <| ?_
  refine ru_getR h dX1_reset_36 lk_X1_29 ?_
  intro v11 h
  refine ru_iconst dX1_reset_39 kc_i_0 <| ru_iconst dX1_reset_40 kc_i_0 <| ru_bipush dX1_reset_41 kc_b_20 <| ?_
  obtain ⟨_, hrc, h⟩ := Option.bind_eq_some_iff.mp h
  obtain ⟨q12, hq12, h⟩ := Option.bind_eq_some_iff.mp h
  refine ru_callV (tm_X10_set hl0 (by omega) hq12) dX1_reset_43 rfl pm_X1_45 mf_X10_set (ab_rcv_of hrc rfl) rfl rfl (Nat.le_of_ble_eq_true rfl) ?_
  refine ru_aload_n (i := 0) dX1_reset_46 rfl rfl <| ?_
  refine ru_getR h dX1_reset_47 lk_X1_29 ?_
  intro v13 h
  refine ru_iconst dX1_reset_50 kc_i_0 <| ru_iconst dX1_reset_51 kc_i_1 <| ru_iconst dX1_reset_52 kc_i_2 <| ?_
  obtain ⟨_, hrc, h⟩ := Option.bind_eq_some_iff.mp h
  obtain ⟨q14, hq14, h⟩ := Option.bind_eq_some_iff.mp h
  refine ru_callV (tm_X10_set hl0 (by omega) hq14) dX1_reset_53 rfl pm_X1_45 mf_X10_set (ab_rcv_of hrc rfl) rfl rfl (Nat.le_of_ble_eq_true rfl) ?_
  refine ru_aload_n (i := 0) dX1_reset_56 rfl rfl <| ?_
  refine ru_getR h dX1_reset_57 lk_X1_29 ?_
  intro v15 h
  refine ru_iconst dX1_reset_60 kc_i_0 <| ru_iconst dX1_reset_61 kc_i_2 <| ru_bipush dX1_reset_62 kc_b_100 <| ?_
  obtain ⟨_, hrc, h⟩ := Option.bind_eq_some_iff.mp h
  obtain ⟨q16, hq16, h⟩ := Option.bind_eq_some_iff.mp h
  refine ru_callV (tm_X10_set hl0 (by omega) hq16) dX1_reset_64 rfl pm_X1_45 mf_X10_set (ab_rcv_of hrc rfl) rfl rfl (Nat.le_of_ble_eq_true rfl) ?_
  refine ru_aload_n (i := 0) dX1_reset_67 rfl rfl <| ?_
  refine ru_getR h dX1_reset_68 lk_X1_35 ?_
  intro v17 h
  obtain ⟨_, hrc, h⟩ := Option.bind_eq_some_iff.mp h
  obtain ⟨q18, hq18, h⟩ := Option.bind_eq_some_iff.mp h
  refine ru_callV (tm_X9_clear hl0 (by omega) hq18) dX1_reset_71 rfl pm_X1_49 mf_X9_clear (ab_rcv_of hrc rfl) rfl rfl (Nat.le_of_ble_eq_true rfl) ?_
  refine ru_aload_n (i := 0) dX1_reset_74 rfl rfl <| ?_
  refine ru_getR h dX1_reset_75 lk_X1_35 ?_
  intro v19 h
  refine ru_bipush dX1_reset_78 kc_b_m2 <| ?_
  obtain ⟨_, hrc, h⟩ := Option.bind_eq_some_iff.mp h
  obtain ⟨q20, hq20, h⟩ := Option.bind_eq_some_iff.mp h
  refine ru_callV (tm_X9_add hl0 (by omega) hq20) dX1_reset_80 rfl pm_X1_50 mf_X9_add (ab_rcv_of hrc rfl) rfl rfl (Nat.le_of_ble_eq_true rfl) ?_
  cases h
  exact ru_ret (v := none) ⟨rfl, dX1_reset_83⟩
theorem tm_X1_reset {l : Launch} {g : ab_G} (hl0 : l.stackTraces = false) {d : Nat} (hd : 3 ≤ d) {l0 : Nat} {m : ab_Mm} {z : (Unit × ab_Mm)} (h : dd_X1_reset l0 m = some z) : ab_Met l g yX1_reset cX1_reset 1 none [] d [.ref l0] m (.inl none) z.2 := by
  obtain ⟨d2, rfl⟩ : ∃ d2, d = d2 + 1 := ⟨d - 1, by omega⟩
  exact ab_of hl0 (by decide +kernel) (Nat.le_of_ble_eq_true rfl) (fun q => by cases q) rfl (te_X1_reset hl0 hd _ _ _ h)
theorem te_X1_init {l : Launch} {g : ab_G} (hl0 : l.stackTraces = false) {d2 : Nat} (hd : 4 ≤ d2 + 1)   (l0 : Nat) (m0 : ab_Mm) (z : (Unit × ab_Mm)) (h : dd_X1_init  l0 m0 = some z) : ab_W l g cX1_init RX1 1 none [] true (d2 + 1) (.inl none) z.2 0 [(0, .ref l0)] [] m0 := by
  unfold dd_X1_init at h
  refine ru_aload_n (i := 0) dX1_init_0 rfl rfl <| ru_objInit dX1_init_1 ⟨pm_X1_3, po_inst, po_code⟩ (Nat.le_of_ble_eq_true rfl) <| ru_aload_n (i := 0) dX1_init_4 rfl rfl <| ?_
  refine ru_new h dX1_init_5 nw_X1_9 ?_
  intro q1 h
  refine ru_dup dX1_init_8 rfl <| ru_bipush dX1_init_9 kc_b_8 <| ru_iconst dX1_init_11 kc_i_2 <| ?_
  obtain ⟨q2, hq2, h⟩ := Option.bind_eq_some_iff.mp h
  refine ru_callI rfl (tm_X10_init hl0 (by omega) hq2) dX1_init_12 rfl (Or.inl pm_X1_11) mf_X10_init rfl rfl (Nat.le_of_ble_eq_true rfl) ?_
  refine ru_putR h dX1_init_15 lk_X1_14 (fun _ => ⟨rfl, rfl⟩) rfl (fun q hq => by cases hq; rfl) (fun q hq => by cases hq; exact pf_X1_14) ?_
  intro m3 h
  refine ru_aload_n (i := 0) dX1_init_18 rfl rfl <| ?_
  refine ru_new h dX1_init_19 nw_X1_9 ?_
  intro q4 h
  refine ru_dup dX1_init_22 rfl <| ru_bipush dX1_init_23 kc_b_6 <| ru_iconst dX1_init_25 kc_i_3 <| ?_
  obtain ⟨q5, hq5, h⟩ := Option.bind_eq_some_iff.mp h
  refine ru_callI rfl (tm_X10_init hl0 (by omega) hq5) dX1_init_26 rfl (Or.inl pm_X1_11) mf_X10_init rfl rfl (Nat.le_of_ble_eq_true rfl) ?_
  refine ru_putR h dX1_init_29 lk_X1_20 (fun _ => ⟨rfl, rfl⟩) rfl (fun q hq => by cases hq; rfl) (fun q hq => by cases hq; exact pf_X1_20) ?_
  intro m6 h
  refine ru_aload_n (i := 0) dX1_init_32 rfl rfl <| ?_
  refine ru_new h dX1_init_33 nw_X1_9 ?_
  intro q7 h
  refine ru_dup dX1_init_36 rfl <| ru_bipush dX1_init_37 kc_b_6 <| ru_iconst dX1_init_39 kc_i_1 <| ?_
  obtain ⟨q8, hq8, h⟩ := Option.bind_eq_some_iff.mp h
  refine ru_callI rfl (tm_X10_init hl0 (by omega) hq8) dX1_init_40 rfl (Or.inl pm_X1_11) mf_X10_init rfl rfl (Nat.le_of_ble_eq_true rfl) ?_
  refine ru_putR h dX1_init_43 lk_X1_23 (fun _ => ⟨rfl, rfl⟩) rfl (fun q hq => by cases hq; rfl) (fun q hq => by cases hq; exact pf_X1_23) ?_
  intro m9 h
  refine ru_aload_n (i := 0) dX1_init_46 rfl rfl <| ?_
  refine ru_new h dX1_init_47 nw_X1_9 ?_
  intro q10 h
  refine ru_dup dX1_init_50 rfl <| ru_bipush dX1_init_51 kc_b_8 <| ru_bipush dX1_init_53 kc_b_6 <| ?_
  obtain ⟨q11, hq11, h⟩ := Option.bind_eq_some_iff.mp h
  refine ru_callI rfl (tm_X10_init hl0 (by omega) hq11) dX1_init_55 rfl (Or.inl pm_X1_11) mf_X10_init rfl rfl (Nat.le_of_ble_eq_true rfl) ?_
  refine ru_putR h dX1_init_58 lk_X1_26 (fun _ => ⟨rfl, rfl⟩) rfl (fun q hq => by cases hq; rfl) (fun q hq => by cases hq; exact pf_X1_26) ?_
  intro m12 h
  refine ru_aload_n (i := 0) dX1_init_61 rfl rfl <| ?_
  refine ru_new h dX1_init_62 nw_X1_9 ?_
  intro q13 h
  refine ru_dup dX1_init_65 rfl <| ru_iconst dX1_init_66 kc_i_1 <| ru_iconst dX1_init_67 kc_i_3 <| ?_
  obtain ⟨q14, hq14, h⟩ := Option.bind_eq_some_iff.mp h
  refine ru_callI rfl (tm_X10_init hl0 (by omega) hq14) dX1_init_68 rfl (Or.inl pm_X1_11) mf_X10_init rfl rfl (Nat.le_of_ble_eq_true rfl) ?_
  refine ru_putR h dX1_init_71 lk_X1_29 (fun _ => ⟨rfl, rfl⟩) rfl (fun q hq => by cases hq; rfl) (fun q hq => by cases hq; exact pf_X1_29) ?_
  intro m15 h
  refine ru_aload_n (i := 0) dX1_init_74 rfl rfl <| ?_
  refine ru_new h dX1_init_75 nw_X1_32 ?_
  intro q16 h
  refine ru_dup dX1_init_78 rfl <| ?_
  obtain ⟨q17, hq17, h⟩ := Option.bind_eq_some_iff.mp h
  refine ru_callI rfl (tm_X9_init hl0 (by omega) hq17) dX1_init_79 rfl (Or.inr pn_X1_34) mf_X9_init rfl rfl (Nat.le_of_ble_eq_true rfl) ?_
  refine ru_putR h dX1_init_82 lk_X1_35 (fun _ => ⟨rfl, rfl⟩) rfl (fun q hq => by cases hq; rfl) (fun q hq => by cases hq; exact pf_X1_35) ?_
  intro m18 h
  refine ru_aload_n (i := 0) dX1_init_85 rfl rfl <| ?_
  obtain ⟨_, hrc, h⟩ := Option.bind_eq_some_iff.mp h
  obtain ⟨q19, hq19, h⟩ := Option.bind_eq_some_iff.mp h
  refine ru_callV (tm_X1_reset hl0 (by omega) hq19) dX1_init_86 rfl pm_X1_39 mf_X1_reset (ab_rcv_of hrc rfl) rfl rfl (Nat.le_of_ble_eq_true rfl) ?_
  cases h
  exact ru_ret (v := none) ⟨rfl, dX1_init_89⟩
theorem tm_X1_init {l : Launch} {g : ab_G} (hl0 : l.stackTraces = false) {d : Nat} (hd : 4 ≤ d) {l0 : Nat} {m : ab_Mm} {z : (Unit × ab_Mm)} (h : dd_X1_init l0 m = some z) : ab_Met l g yX1_init cX1_init 1 none [] d [.ref l0] m (.inl none) z.2 := by
  obtain ⟨d2, rfl⟩ : ∃ d2, d = d2 + 1 := ⟨d - 1, by omega⟩
  exact ab_of hl0 (by decide +kernel) (Nat.le_of_ble_eq_true rfl) (fun _ => rfl) rfl (te_X1_init hl0 hd _ _ _ h)
theorem te_X9_copyFrom {l : Launch} {g : ab_G} (hl0 : l.stackTraces = false) {d2 : Nat} (hd : 1 ≤ d2 + 1)   (l0 : Nat) (l1 : Nat) (m0 : ab_Mm) (z : (Unit × ab_Mm)) (h : dd_X9_copyFrom  l0 l1 m0 = some z) : ab_W l g cX9_copyFrom RX9 3 none [] false (d2 + 1) (.inl none) z.2 0 [(0, .ref l0), (1, .ref l1)] [] m0 := by
  unfold dd_X9_copyFrom at h
  refine ru_aload_n (i := 0) dX9_copyFrom_0 rfl rfl <| ?_
  refine ru_getR h dX9_copyFrom_1 lk_X9_9 ?_
  intro v1 h
  refine ru_alen 0 h dX9_copyFrom_4 ?_
  intro v2 h
  refine ru_aload_n (i := 1) dX9_copyFrom_5 rfl rfl <| ?_
  refine ru_getR h dX9_copyFrom_6 lk_X9_9 ?_
  intro v3 h
  refine ru_alen 0 h dX9_copyFrom_9 ?_
  intro v4 h
  refine ru_mmin dX9_copyFrom_10 ⟨pm_X9_22, pq_min_s, pq_ini, pq_min_c⟩ (Nat.le_of_ble_eq_true rfl) <| ru_istore_n (i := 2) dX9_copyFrom_13 rfl (by decide) <| ru_aload_n (i := 0) dX9_copyFrom_14 rfl rfl <| ru_iconst dX9_copyFrom_15 kc_i_0 <| ru_aload_n (i := 1) dX9_copyFrom_16 rfl rfl <| ?_
  refine ru_getI h dX9_copyFrom_17 lk_X9_15 ?_
  intro v5 h
  refine ru_iload_n (i := 2) dX9_copyFrom_20 rfl rfl <| ru_mmin dX9_copyFrom_21 ⟨pm_X9_22, pq_min_s, pq_ini, pq_min_c⟩ (Nat.le_of_ble_eq_true rfl) <| ru_mmax dX9_copyFrom_24 ⟨pm_X9_28, pq_max_s, pq_ini, pq_max_c⟩ (Nat.le_of_ble_eq_true rfl) <| ?_
  refine ru_putI h dX9_copyFrom_27 lk_X9_15 ?_
  intro m6 h
  refine ru_aload_n (i := 1) dX9_copyFrom_30 rfl rfl <| ?_
  refine ru_getR h dX9_copyFrom_31 lk_X9_9 ?_
  intro v7 h
  refine ru_iconst dX9_copyFrom_34 kc_i_0 <| ru_aload_n (i := 0) dX9_copyFrom_35 rfl rfl <| ?_
  refine ru_getR h dX9_copyFrom_36 lk_X9_9 ?_
  intro v8 h
  refine ru_iconst dX9_copyFrom_39 kc_i_0 <| ru_aload_n (i := 0) dX9_copyFrom_40 rfl rfl <| ?_
  refine ru_getI h dX9_copyFrom_41 lk_X9_15 ?_
  intro v9 h
  refine ru_copyI h dX9_copyFrom_44 ⟨pm_X9_31, pr_n, pr_s, pr_i⟩ (Nat.le_of_ble_eq_true rfl) ?_
  intro m10 h
  cases h
  exact ru_ret (v := none) ⟨rfl, dX9_copyFrom_47⟩
theorem tm_X9_copyFrom {l : Launch} {g : ab_G} (hl0 : l.stackTraces = false) {d : Nat} (hd : 1 ≤ d) {l0 : Nat} {l1 : Nat} {m : ab_Mm} {z : (Unit × ab_Mm)} (h : dd_X9_copyFrom l0 l1 m = some z) : ab_Met l g yX9_copyFrom cX9_copyFrom 3 none [] d [.ref l0, .ref l1] m (.inl none) z.2 := by
  obtain ⟨d2, rfl⟩ : ∃ d2, d = d2 + 1 := ⟨d - 1, by omega⟩
  exact ab_of hl0 (by decide +kernel) (Nat.le_of_ble_eq_true rfl) (fun q => by cases q) rfl (te_X9_copyFrom hl0 hd _ _ _ _ h)
theorem te_X1_copyFrom {l : Launch} {g : ab_G} (hl0 : l.stackTraces = false) {d2 : Nat} (hd : 2 ≤ d2 + 1)   (l0 : Nat) (l1 : Nat) (m0 : ab_Mm) (z : (Unit × ab_Mm)) (h : dd_X1_copyFrom  l0 l1 m0 = some z) : ab_W l g cX1_copyFrom RX1 2 none [] false (d2 + 1) (.inl none) z.2 0 [(0, .ref l0), (1, .ref l1)] [] m0 := by
  unfold dd_X1_copyFrom at h
  refine ru_aload_n (i := 0) dX1_copyFrom_0 rfl rfl <| ?_
  refine ru_getR h dX1_copyFrom_1 lk_X1_14 ?_
  intro v1 h
  refine ru_aload_n (i := 1) dX1_copyFrom_4 rfl rfl <| ?_
  refine ru_getR h dX1_copyFrom_5 lk_X1_14 ?_
  intro v2 h
  obtain ⟨_, hrc, h⟩ := Option.bind_eq_some_iff.mp h
  obtain ⟨q3, hq3, h⟩ := Option.bind_eq_some_iff.mp h
  refine ru_callV (tm_X10_copyFrom hl0 (by omega) hq3) dX1_copyFrom_8 rfl pm_X1_54 mf_X10_copyFrom (ab_rcv_of hrc rfl) rfl rfl (Nat.le_of_ble_eq_true rfl) ?_
  refine ru_aload_n (i := 0) dX1_copyFrom_11 rfl rfl <| ?_
  refine ru_getR h dX1_copyFrom_12 lk_X1_20 ?_
  intro v4 h
  refine ru_aload_n (i := 1) dX1_copyFrom_15 rfl rfl <| ?_
  refine ru_getR h dX1_copyFrom_16 lk_X1_20 ?_
  intro v5 h
  obtain ⟨_, hrc, h⟩ := Option.bind_eq_some_iff.mp h
  obtain ⟨q6, hq6, h⟩ := Option.bind_eq_some_iff.mp h
  refine ru_callV (tm_X10_copyFrom hl0 (by omega) hq6) dX1_copyFrom_19 rfl pm_X1_54 mf_X10_copyFrom (ab_rcv_of hrc rfl) rfl rfl (Nat.le_of_ble_eq_true rfl) ?_
  refine ru_aload_n (i := 0) dX1_copyFrom_22 rfl rfl <| ?_
  refine ru_getR h dX1_copyFrom_23 lk_X1_23 ?_
  intro v7 h
  refine ru_aload_n (i := 1) dX1_copyFrom_26 rfl rfl <| ?_
  refine ru_getR h dX1_copyFrom_27 lk_X1_23 ?_
  intro v8 h
  obtain ⟨_, hrc, h⟩ := Option.bind_eq_some_iff.mp h
  obtain ⟨q9, hq9, h⟩ := Option.bind_eq_some_iff.mp h
  refine ru_callV (tm_X10_copyFrom hl0 (by omega) hq9) dX1_copyFrom_30 rfl pm_X1_54 mf_X10_copyFrom (ab_rcv_of hrc rfl) rfl rfl (Nat.le_of_ble_eq_true rfl) ?_
  refine ru_aload_n (i := 0) dX1_copyFrom_33 rfl rfl <| ?_
  refine ru_getR h dX1_copyFrom_34 lk_X1_26 ?_
  intro v10 h
  refine ru_aload_n (i := 1) dX1_copyFrom_37 rfl rfl <| ?_
  refine ru_getR h dX1_copyFrom_38 lk_X1_26 ?_
  intro v11 h
  obtain ⟨_, hrc, h⟩ := Option.bind_eq_some_iff.mp h
  obtain ⟨q12, hq12, h⟩ := Option.bind_eq_some_iff.mp h
  refine ru_callV (tm_X10_copyFrom hl0 (by omega) hq12) dX1_copyFrom_41 rfl pm_X1_54 mf_X10_copyFrom (ab_rcv_of hrc rfl) rfl rfl (Nat.le_of_ble_eq_true rfl) ?_
  refine ru_aload_n (i := 0) dX1_copyFrom_44 rfl rfl <| ?_
  refine ru_getR h dX1_copyFrom_45 lk_X1_29 ?_
  intro v13 h
  refine ru_aload_n (i := 1) dX1_copyFrom_48 rfl rfl <| ?_
  refine ru_getR h dX1_copyFrom_49 lk_X1_29 ?_
  intro v14 h
  obtain ⟨_, hrc, h⟩ := Option.bind_eq_some_iff.mp h
  obtain ⟨q15, hq15, h⟩ := Option.bind_eq_some_iff.mp h
  refine ru_callV (tm_X10_copyFrom hl0 (by omega) hq15) dX1_copyFrom_52 rfl pm_X1_54 mf_X10_copyFrom (ab_rcv_of hrc rfl) rfl rfl (Nat.le_of_ble_eq_true rfl) ?_
  refine ru_aload_n (i := 0) dX1_copyFrom_55 rfl rfl <| ?_
  refine ru_getR h dX1_copyFrom_56 lk_X1_35 ?_
  intro v16 h
  refine ru_aload_n (i := 1) dX1_copyFrom_59 rfl rfl <| ?_
  refine ru_getR h dX1_copyFrom_60 lk_X1_35 ?_
  intro v17 h
  obtain ⟨_, hrc, h⟩ := Option.bind_eq_some_iff.mp h
  obtain ⟨q18, hq18, h⟩ := Option.bind_eq_some_iff.mp h
  refine ru_callV (tm_X9_copyFrom hl0 (by omega) hq18) dX1_copyFrom_63 rfl pm_X1_58 mf_X9_copyFrom (ab_rcv_of hrc rfl) rfl rfl (Nat.le_of_ble_eq_true rfl) ?_
  cases h
  exact ru_ret (v := none) ⟨rfl, dX1_copyFrom_66⟩
theorem tm_X1_copyFrom {l : Launch} {g : ab_G} (hl0 : l.stackTraces = false) {d : Nat} (hd : 2 ≤ d) {l0 : Nat} {l1 : Nat} {m : ab_Mm} {z : (Unit × ab_Mm)} (h : dd_X1_copyFrom l0 l1 m = some z) : ab_Met l g yX1_copyFrom cX1_copyFrom 2 none [] d [.ref l0, .ref l1] m (.inl none) z.2 := by
  obtain ⟨d2, rfl⟩ : ∃ d2, d = d2 + 1 := ⟨d - 1, by omega⟩
  exact ab_of hl0 (by decide +kernel) (Nat.le_of_ble_eq_true rfl) (fun q => by cases q) rfl (te_X1_copyFrom hl0 hd _ _ _ _ h)
theorem te_X1_priceAt {l : Launch} {g : ab_G} (hl0 : l.stackTraces = false) {d2 : Nat} (hd : 2 ≤ d2 + 1)   (l0 : Nat) (l1 : Int32) (l2 : Int32) (m0 : ab_Mm) (z : (Int32 × ab_Mm)) (h : dd_X1_priceAt  l0 l1 l2 m0 = some z) : ab_W l g cX1_priceAt RX1 5 (some .int) [] false (d2 + 1) (.inl (some (.int z.1))) z.2 0 [(0, .ref l0), (1, .int l1), (2, .int l2)] [] m0 := by
  unfold dd_X1_priceAt at h
  refine ru_aload_n (i := 0) dX1_priceAt_0 rfl rfl <| ?_
  refine ru_getR h dX1_priceAt_1 lk_X1_29 ?_
  intro v1 h
  refine ru_iconst dX1_priceAt_4 kc_i_0 <| ru_iconst dX1_priceAt_5 kc_i_0 <| ?_
  obtain ⟨_, hrc, h⟩ := Option.bind_eq_some_iff.mp h
  obtain ⟨q2, hq2, h⟩ := Option.bind_eq_some_iff.mp h
  refine ru_callV (tm_X10_get hl0 (by omega) hq2) dX1_priceAt_6 rfl pm_X1_61 mf_X10_get (ab_rcv_of hrc rfl) rfl rfl (Nat.le_of_ble_eq_true rfl) ?_
  refine ru_aload_n (i := 0) dX1_priceAt_9 rfl rfl <| ?_
  refine ru_getR h dX1_priceAt_10 lk_X1_29 ?_
  intro v3 h
  refine ru_iconst dX1_priceAt_13 kc_i_0 <| ru_iconst dX1_priceAt_14 kc_i_2 <| ?_
  obtain ⟨_, hrc, h⟩ := Option.bind_eq_some_iff.mp h
  obtain ⟨q4, hq4, h⟩ := Option.bind_eq_some_iff.mp h
  refine ru_callV (tm_X10_get hl0 (by omega) hq4) dX1_priceAt_15 rfl pm_X1_61 mf_X10_get (ab_rcv_of hrc rfl) rfl rfl (Nat.le_of_ble_eq_true rfl) ?_
  refine ru_iload_n (i := 2) dX1_priceAt_18 rfl rfl <| ru_imul dX1_priceAt_19 <| ru_bipush dX1_priceAt_20 kc_b_100 <| ?_
  rcases ab_iff h with ⟨hc, h⟩ | ⟨hc, h⟩
  · cases h
  refine ru_idiv dX1_priceAt_22 hc ?_
  refine ru_iadd dX1_priceAt_23 <| ru_istore_n (i := 3) dX1_priceAt_24 rfl (by decide) <| ru_aload_n (i := 0) dX1_priceAt_25 rfl rfl <| ?_
  refine ru_getR h dX1_priceAt_26 lk_X1_20 ?_
  intro v5 h
  refine ru_iload_n (i := 1) dX1_priceAt_29 rfl rfl <| ru_iconst dX1_priceAt_30 kc_i_2 <| ?_
  obtain ⟨_, hrc, h⟩ := Option.bind_eq_some_iff.mp h
  obtain ⟨q6, hq6, h⟩ := Option.bind_eq_some_iff.mp h
  refine ru_callV (tm_X10_get hl0 (by omega) hq6) dX1_priceAt_31 rfl pm_X1_61 mf_X10_get (ab_rcv_of hrc rfl) rfl rfl (Nat.le_of_ble_eq_true rfl) ?_
  refine ru_istore dX1_priceAt_34 (by decide) <| ru_iload dX1_priceAt_36 rfl <| ru_iload dX1_priceAt_38 rfl <| ru_iload_n (i := 3) dX1_priceAt_40 rfl rfl <| ru_imul dX1_priceAt_41 <| ru_bipush dX1_priceAt_42 kc_b_100 <| ?_
  rcases ab_iff h with ⟨hc, h⟩ | ⟨hc, h⟩
  · cases h
  refine ru_idiv dX1_priceAt_44 hc ?_
  refine ru_mmin dX1_priceAt_45 ⟨pm_X1_65, pq_min_s, pq_ini, pq_min_c⟩ (Nat.le_of_ble_eq_true rfl) <| ?_
  cases h
  exact ru_ret (v := some (.int _)) ⟨_, rfl, rfl, dX1_priceAt_48⟩
theorem tm_X1_priceAt {l : Launch} {g : ab_G} (hl0 : l.stackTraces = false) {d : Nat} (hd : 2 ≤ d) {l0 : Nat} {l1 : Int32} {l2 : Int32} {m : ab_Mm} {z : (Int32 × ab_Mm)} (h : dd_X1_priceAt l0 l1 l2 m = some z) : ab_Met l g yX1_priceAt cX1_priceAt 5 (some .int) [] d [.ref l0, .int l1, .int l2] m (.inl (some (.int z.1))) z.2 := by
  obtain ⟨d2, rfl⟩ : ∃ d2, d = d2 + 1 := ⟨d - 1, by omega⟩
  exact ab_of hl0 (by decide +kernel) (Nat.le_of_ble_eq_true rfl) (fun q => by cases q) rfl (te_X1_priceAt hl0 hd _ _ _ _ _ h)
theorem tbb_X1_reserved_83 {l : Launch} {g : ab_G} (hl0 : l.stackTraces = false) {d2 : Nat} (hd : 3 ≤ d2 + 1) (r6 : Nat → Int32 → Int32 → Int32 → Int32 → Int32 → ab_Mm → Option (Int32 × ab_Mm)) (hr6 : ∀ (l0 : Nat) (l1 : Int32) (l2 : Int32) (l3 : Int32) (l4 : Int32) (l5 : Int32) (m : ab_Mm) (z : (Int32 × ab_Mm)), r6 l0 l1 l2 l3 l4 l5 m = some z → ab_W l g cX1_reserved RX1 7 (some .int) [] false (d2 + 1) (.inl (some (.int z.1))) z.2 6 [(0, .ref l0), (1, .int l1), (2, .int l2), (3, .int l3), (4, .int l4), (5, .int l5)] [] m) (l0 : Nat) (l1 : Int32) (l2 : Int32) (l3 : Int32) (l4 : Int32) (l5 : Int32) (m0 : ab_Mm) (z : (Int32 × ab_Mm)) (h : bb_X1_reserved_83 r6 l0 l1 l2 l3 l4 l5 m0 = some z) : ab_W l g cX1_reserved RX1 7 (some .int) [] false (d2 + 1) (.inl (some (.int z.1))) z.2 83 [(0, .ref l0), (1, .int l1), (2, .int l2), (3, .int l3), (4, .int l4), (5, .int l5)] [] m0 := by
  unfold bb_X1_reserved_83 at h
  refine ru_iinc dX1_reserved_83 (by decide) rfl (ab_inc kc_i_1) <| ru_goto (tgt := 6) dX1_reserved_86 (by decide) <| ?_
  exact ru_pick [0, 1, 2, 3, 4, 5] rfl (hr6 _ _ _ _ _ _ _ _ h)
theorem tbb_X1_reserved_51 {l : Launch} {g : ab_G} (hl0 : l.stackTraces = false) {d2 : Nat} (hd : 3 ≤ d2 + 1) (r6 : Nat → Int32 → Int32 → Int32 → Int32 → Int32 → ab_Mm → Option (Int32 × ab_Mm)) (hr6 : ∀ (l0 : Nat) (l1 : Int32) (l2 : Int32) (l3 : Int32) (l4 : Int32) (l5 : Int32) (m : ab_Mm) (z : (Int32 × ab_Mm)), r6 l0 l1 l2 l3 l4 l5 m = some z → ab_W l g cX1_reserved RX1 7 (some .int) [] false (d2 + 1) (.inl (some (.int z.1))) z.2 6 [(0, .ref l0), (1, .int l1), (2, .int l2), (3, .int l3), (4, .int l4), (5, .int l5)] [] m) (l0 : Nat) (l1 : Int32) (l2 : Int32) (l3 : Int32) (l4 : Int32) (l5 : Int32) (s0 : Int32) (m0 : ab_Mm) (z : (Int32 × ab_Mm)) (h : bb_X1_reserved_51 r6 l0 l1 l2 l3 l4 l5 s0 m0 = some z) : ab_W l g cX1_reserved RX1 7 (some .int) [] false (d2 + 1) (.inl (some (.int z.1))) z.2 51 [(0, .ref l0), (1, .int l1), (2, .int l2), (3, .int l3), (4, .int l4), (5, .int l5)] [.int s0] m0 := by
  unfold bb_X1_reserved_51 at h
  refine ru_istore dX1_reserved_51 (by decide) <| ru_iload dX1_reserved_53 rfl <| ?_
  refine ru_if_eq (tgt := 83) dX1_reserved_55 (by decide) (fun hc => ?_) (fun hc => ?_)
  · rw [if_pos hc] at h
    exact ru_pick [0, 1, 2, 3, 4, 5] rfl (tbb_X1_reserved_83 hl0 hd _ hr6 _ _ _ _ _ _ _ _ h)
  · rw [if_neg hc] at h
    refine ru_aload_n (i := 0) dX1_reserved_58 rfl rfl <| ru_iload dX1_reserved_59 rfl <| ru_iload_n (i := 3) dX1_reserved_61 rfl rfl <| ?_
    obtain ⟨_, hrc, h⟩ := Option.bind_eq_some_iff.mp h
    obtain ⟨q1, hq1, h⟩ := Option.bind_eq_some_iff.mp h
    refine ru_callV (tm_X1_isActive hl0 (by omega) hq1) dX1_reserved_62 rfl pm_X1_74 mf_X1_isActive (ab_rcv_of hrc rfl) rfl rfl (Nat.le_of_ble_eq_true rfl) ?_
    refine ru_if_eq (tgt := 83) dX1_reserved_65 (by decide) (fun hc => ?_) (fun hc => ?_)
    · rw [if_pos hc] at h
      exact ru_pick [0, 1, 2, 3, 4, 5] rfl (tbb_X1_reserved_83 hl0 hd _ hr6 _ _ _ _ _ _ _ _ h)
    · rw [if_neg hc] at h
      refine ru_iload dX1_reserved_68 rfl <| ru_aload_n (i := 0) dX1_reserved_70 rfl rfl <| ?_
      refine ru_getR h dX1_reserved_71 lk_X1_26 ?_
      intro v2 h
      refine ru_iload dX1_reserved_74 rfl <| ru_iconst dX1_reserved_76 kc_i_2 <| ?_
      obtain ⟨_, hrc, h⟩ := Option.bind_eq_some_iff.mp h
      obtain ⟨q3, hq3, h⟩ := Option.bind_eq_some_iff.mp h
      refine ru_callV (tm_X10_get hl0 (by omega) hq3) dX1_reserved_77 rfl pm_X1_61 mf_X10_get (ab_rcv_of hrc rfl) rfl rfl (Nat.le_of_ble_eq_true rfl) ?_
      refine ru_iadd dX1_reserved_80 <| ru_istore dX1_reserved_81 (by decide) <| ?_
      exact ru_pick [0, 1, 2, 3, 4, 5] rfl (tbb_X1_reserved_83 hl0 hd _ hr6 _ _ _ _ _ _ _ _ h)
theorem tbb_X1_reserved_50 {l : Launch} {g : ab_G} (hl0 : l.stackTraces = false) {d2 : Nat} (hd : 3 ≤ d2 + 1) (r6 : Nat → Int32 → Int32 → Int32 → Int32 → Int32 → ab_Mm → Option (Int32 × ab_Mm)) (hr6 : ∀ (l0 : Nat) (l1 : Int32) (l2 : Int32) (l3 : Int32) (l4 : Int32) (l5 : Int32) (m : ab_Mm) (z : (Int32 × ab_Mm)), r6 l0 l1 l2 l3 l4 l5 m = some z → ab_W l g cX1_reserved RX1 7 (some .int) [] false (d2 + 1) (.inl (some (.int z.1))) z.2 6 [(0, .ref l0), (1, .int l1), (2, .int l2), (3, .int l3), (4, .int l4), (5, .int l5)] [] m) (l0 : Nat) (l1 : Int32) (l2 : Int32) (l3 : Int32) (l4 : Int32) (l5 : Int32) (m0 : ab_Mm) (z : (Int32 × ab_Mm)) (h : bb_X1_reserved_50 r6 l0 l1 l2 l3 l4 l5 m0 = some z) : ab_W l g cX1_reserved RX1 7 (some .int) [] false (d2 + 1) (.inl (some (.int z.1))) z.2 50 [(0, .ref l0), (1, .int l1), (2, .int l2), (3, .int l3), (4, .int l4), (5, .int l5)] [] m0 := by
  unfold bb_X1_reserved_50 at h
  refine ru_iconst dX1_reserved_50 kc_i_0 <| ?_
  exact ru_pick [0, 1, 2, 3, 4, 5] rfl (tbb_X1_reserved_51 hl0 hd _ hr6 _ _ _ _ _ _ _ _ _ h)
theorem tbb_X1_reserved_6 {l : Launch} {g : ab_G} (hl0 : l.stackTraces = false) {d2 : Nat} (hd : 3 ≤ d2 + 1)   : ∀ (n : Nat) (l0 : Nat) (l1 : Int32) (l2 : Int32) (l3 : Int32) (l4 : Int32) (l5 : Int32) (m0 : ab_Mm) (z : (Int32 × ab_Mm)), bb_X1_reserved_6  n l0 l1 l2 l3 l4 l5 m0 = some z → ab_W l g cX1_reserved RX1 7 (some .int) [] false (d2 + 1) (.inl (some (.int z.1))) z.2 6 [(0, .ref l0), (1, .int l1), (2, .int l2), (3, .int l3), (4, .int l4), (5, .int l5)] [] m0 := by
  intro n
  induction n with
  | zero => intro l0 l1 l2 l3 l4 l5 m0 z h; cases h
  | succ n ih =>
    intro l0 l1 l2 l3 l4 l5 m0 z h
    rw [bb_X1_reserved_6] at h
    refine ru_iload dX1_reserved_6 rfl <| ru_aload_n (i := 0) dX1_reserved_8 rfl rfl <| ?_
    refine ru_getR h dX1_reserved_9 lk_X1_26 ?_
    intro v1 h
    refine ru_getI h dX1_reserved_12 lk_X1_70 ?_
    intro v2 h
    refine ru_icmp_ge (tgt := 89) dX1_reserved_15 (by decide) (fun hc => ?_) (fun hc => ?_)
    · rw [if_pos hc] at h
      refine ru_iload dX1_reserved_89 rfl <| ?_
      cases h
      exact ru_ret (v := some (.int _)) ⟨_, rfl, rfl, dX1_reserved_91⟩
    · rw [if_neg hc] at h
      refine ru_aload_n (i := 0) dX1_reserved_18 rfl rfl <| ?_
      refine ru_getR h dX1_reserved_19 lk_X1_26 ?_
      intro v3 h
      refine ru_iload dX1_reserved_22 rfl <| ru_iconst dX1_reserved_24 kc_i_0 <| ?_
      obtain ⟨_, hrc, h⟩ := Option.bind_eq_some_iff.mp h
      obtain ⟨q4, hq4, h⟩ := Option.bind_eq_some_iff.mp h
      refine ru_callV (tm_X10_get hl0 (by omega) hq4) dX1_reserved_25 rfl pm_X1_61 mf_X10_get (ab_rcv_of hrc rfl) rfl rfl (Nat.le_of_ble_eq_true rfl) ?_
      refine ru_iload_n (i := 1) dX1_reserved_28 rfl rfl <| ?_
      refine ru_icmp_ne (tgt := 50) dX1_reserved_29 (by decide) (fun hc => ?_) (fun hc => ?_)
      · rw [if_neg hc] at h
        exact ru_pick [0, 1, 2, 3, 4, 5] rfl (tbb_X1_reserved_50 hl0 hd _ ih _ _ _ _ _ _ _ _ h)
      · rw [if_pos hc] at h
        refine ru_aload_n (i := 0) dX1_reserved_32 rfl rfl <| ?_
        refine ru_getR h dX1_reserved_33 lk_X1_26 ?_
        intro v5 h
        refine ru_iload dX1_reserved_36 rfl <| ru_iconst dX1_reserved_38 kc_i_1 <| ?_
        obtain ⟨_, hrc, h⟩ := Option.bind_eq_some_iff.mp h
        obtain ⟨q6, hq6, h⟩ := Option.bind_eq_some_iff.mp h
        refine ru_callV (tm_X10_get hl0 (by omega) hq6) dX1_reserved_39 rfl pm_X1_61 mf_X10_get (ab_rcv_of hrc rfl) rfl rfl (Nat.le_of_ble_eq_true rfl) ?_
        refine ru_iload_n (i := 2) dX1_reserved_42 rfl rfl <| ?_
        refine ru_icmp_ne (tgt := 50) dX1_reserved_43 (by decide) (fun hc => ?_) (fun hc => ?_)
        · rw [if_neg hc] at h
          exact ru_pick [0, 1, 2, 3, 4, 5] rfl (tbb_X1_reserved_50 hl0 hd _ ih _ _ _ _ _ _ _ _ h)
        · rw [if_pos hc] at h
          refine ru_iconst dX1_reserved_46 kc_i_1 <| ru_goto (tgt := 51) dX1_reserved_47 (by decide) <| ?_
          exact ru_pick [0, 1, 2, 3, 4, 5] rfl (tbb_X1_reserved_51 hl0 hd _ ih _ _ _ _ _ _ _ _ _ h)
theorem te_X1_reserved {l : Launch} {g : ab_G} (hl0 : l.stackTraces = false) {d2 : Nat} (hd : 3 ≤ d2 + 1)   (l0 : Nat) (l1 : Int32) (l2 : Int32) (l3 : Int32) (m0 : ab_Mm) (z : (Int32 × ab_Mm)) (h : dd_X1_reserved  l0 l1 l2 l3 m0 = some z) : ab_W l g cX1_reserved RX1 7 (some .int) [] false (d2 + 1) (.inl (some (.int z.1))) z.2 0 [(0, .ref l0), (1, .int l1), (2, .int l2), (3, .int l3)] [] m0 := by
  unfold dd_X1_reserved at h
  refine ru_iconst dX1_reserved_0 kc_i_0 <| ru_istore dX1_reserved_1 (by decide) <| ru_iconst dX1_reserved_3 kc_i_0 <| ru_istore dX1_reserved_4 (by decide) <| ?_
  exact ru_pick [0, 1, 2, 3, 4, 5] rfl (tbb_X1_reserved_6 hl0 hd   _ _ _ _ _ _ _ _ _ h)
theorem tm_X1_reserved {l : Launch} {g : ab_G} (hl0 : l.stackTraces = false) {d : Nat} (hd : 3 ≤ d) {l0 : Nat} {l1 : Int32} {l2 : Int32} {l3 : Int32} {m : ab_Mm} {z : (Int32 × ab_Mm)} (h : dd_X1_reserved l0 l1 l2 l3 m = some z) : ab_Met l g yX1_reserved cX1_reserved 7 (some .int) [] d [.ref l0, .int l1, .int l2, .int l3] m (.inl (some (.int z.1))) z.2 := by
  obtain ⟨d2, rfl⟩ : ∃ d2, d = d2 + 1 := ⟨d - 1, by omega⟩
  exact ab_of hl0 (by decide +kernel) (Nat.le_of_ble_eq_true rfl) (fun q => by cases q) rfl (te_X1_reserved hl0 hd _ _ _ _ _ _ h)
theorem tbb_X9_apply_55 {l : Launch} {g : ab_G} (hl0 : l.stackTraces = false) {d2 : Nat} (hd : 1 ≤ d2 + 1)   (s0 : Int32) (m0 : ab_Mm) (z : (Int32 × ab_Mm)) (h : bb_X9_apply_55  s0 m0 = some z) : ab_W l g cX9_apply RX9 3 (some .int) [] false (d2 + 1) (.inl (some (.int z.1))) z.2 55 [] [.int s0] m0 := by
  unfold bb_X9_apply_55 at h
  cases h
  exact ru_ret (v := some (.int _)) ⟨_, rfl, rfl, dX9_apply_55⟩
theorem tbb_X9_apply_44 {l : Launch} {g : ab_G} (hl0 : l.stackTraces = false) {d2 : Nat} (hd : 1 ≤ d2 + 1)   (l1 : Int32) (l2 : Int32) (m0 : ab_Mm) (z : (Int32 × ab_Mm)) (h : bb_X9_apply_44  l1 l2 m0 = some z) : ab_W l g cX9_apply RX9 3 (some .int) [] false (d2 + 1) (.inl (some (.int z.1))) z.2 44 [(1, .int l1), (2, .int l2)] [] m0 := by
  unfold bb_X9_apply_44 at h
  refine ru_iload_n (i := 2) dX9_apply_44 rfl rfl <| ?_
  refine ru_if_ne (tgt := 52) dX9_apply_45 (by decide) (fun hc => ?_) (fun hc => ?_)
  · rw [if_neg hc] at h
    refine ru_iload_n (i := 1) dX9_apply_52 rfl rfl <| ru_iload_n (i := 2) dX9_apply_53 rfl rfl <| ?_
    rcases ab_iff h with ⟨hc, h⟩ | ⟨hc, h⟩
    · cases h
    refine ru_idiv dX9_apply_54 hc ?_
    exact ru_pick [] rfl (tbb_X9_apply_55 hl0 hd   _ _ _ h)
  · rw [if_pos hc] at h
    refine ru_iconst dX9_apply_48 kc_i_0 <| ru_goto (tgt := 55) dX9_apply_49 (by decide) <| ?_
    exact ru_pick [] rfl (tbb_X9_apply_55 hl0 hd   _ _ _ h)
theorem te_X9_apply {l : Launch} {g : ab_G} (hl0 : l.stackTraces = false) {d2 : Nat} (hd : 1 ≤ d2 + 1)   (l0 : Int32) (l1 : Int32) (l2 : Int32) (m0 : ab_Mm) (z : (Int32 × ab_Mm)) (h : dd_X9_apply  l0 l1 l2 m0 = some z) : ab_W l g cX9_apply RX9 3 (some .int) [] false (d2 + 1) (.inl (some (.int z.1))) z.2 0 [(0, .int l0), (1, .int l1), (2, .int l2)] [] m0 := by
  unfold dd_X9_apply at h
  refine ru_iload_n (i := 0) dX9_apply_0 rfl rfl <| ?_
  rcases ab_iff h with ⟨hc, h⟩ | ⟨hc42, h⟩
  · rw [hc]
    refine ru_tableIn (off := 39) (tgt := 40) dX9_apply_1 (by decide) (by decide) (by decide) (by decide) ?_
    refine ru_iload_n (i := 1) dX9_apply_40 rfl rfl <| ru_iload_n (i := 2) dX9_apply_41 rfl rfl <| ru_imul dX9_apply_42 <| ?_
    cases h
    exact ru_ret (v := some (.int _)) ⟨_, rfl, rfl, dX9_apply_43⟩
  rcases ab_iff h with ⟨hc, h⟩ | ⟨hc43, h⟩
  · rw [hc]
    refine ru_tableIn (off := 31) (tgt := 32) dX9_apply_1 (by decide) (by decide) (by decide) (by decide) ?_
    refine ru_iload_n (i := 1) dX9_apply_32 rfl rfl <| ru_iload_n (i := 2) dX9_apply_33 rfl rfl <| ru_iadd dX9_apply_34 <| ?_
    cases h
    exact ru_ret (v := some (.int _)) ⟨_, rfl, rfl, dX9_apply_35⟩
  rcases ab_iff h with ⟨hc, h⟩ | ⟨hc44, h⟩
  · rw [hc]
    refine ru_tableIn (off := 43) (tgt := 44) dX9_apply_1 (by decide) (by decide) (by decide) (by decide) ?_
    exact ru_pick [1, 2] rfl (tbb_X9_apply_44 hl0 hd   _ _ _ _ h)
  rcases ab_iff h with ⟨hc, h⟩ | ⟨hc45, h⟩
  · rw [hc]
    refine ru_tableIn (off := 35) (tgt := 36) dX9_apply_1 (by decide) (by decide) (by decide) (by decide) ?_
    refine ru_iload_n (i := 1) dX9_apply_36 rfl rfl <| ru_iload_n (i := 2) dX9_apply_37 rfl rfl <| ru_isub dX9_apply_38 <| ?_
    cases h
    exact ru_ret (v := some (.int _)) ⟨_, rfl, rfl, dX9_apply_39⟩
  have e42 := ab_ne_int hc42 (by decide : (42 : Int32).toInt = 42)
  have e43 := ab_ne_int hc43 (by decide : (43 : Int32).toInt = 43)
  have e44 := ab_ne_int hc44 (by decide : (44 : Int32).toInt = 44)
  have e45 := ab_ne_int hc45 (by decide : (45 : Int32).toInt = 45)
  refine ru_tableOut (tgt := 44) dX9_apply_1 (by omega) (by decide) ?_
  exact ru_pick [1, 2] rfl (tbb_X9_apply_44 hl0 hd   _ _ _ _ h)
theorem tm_X9_apply {l : Launch} {g : ab_G} (hl0 : l.stackTraces = false) {d : Nat} (hd : 1 ≤ d) {l0 : Int32} {l1 : Int32} {l2 : Int32} {m : ab_Mm} {z : (Int32 × ab_Mm)} (h : dd_X9_apply l0 l1 l2 m = some z) : ab_Met l g yX9_apply cX9_apply 3 (some .int) [] d [.int l0, .int l1, .int l2] m (.inl (some (.int z.1))) z.2 := by
  obtain ⟨d2, rfl⟩ : ∃ d2, d = d2 + 1 := ⟨d - 1, by omega⟩
  exact ab_of hl0 (by decide +kernel) (Nat.le_of_ble_eq_true rfl) (fun q => by cases q) rfl (te_X9_apply hl0 hd _ _ _ _ _ h)
theorem te_X9_operand {l : Launch} {g : ab_G} (hl0 : l.stackTraces = false) {d2 : Nat} (hd : 2 ≤ d2 + 1)   (l0 : Int32) (l1 : Nat) (l2 : Int32) (l3 : Int32) (m0 : ab_Mm) (z : (Int32 × ab_Mm)) (h : dd_X9_operand  l0 l1 l2 l3 m0 = some z) : ab_W l g cX9_operand RX9 4 (some .int) [] false (d2 + 1) (.inl (some (.int z.1))) z.2 0 [(0, .int l0), (1, .ref l1), (2, .int l2), (3, .int l3)] [] m0 := by
  unfold dd_X9_operand at h
  refine ru_iload_n (i := 0) dX9_operand_0 rfl rfl <| ?_
  rcases ab_iff h with ⟨hc, h⟩ | ⟨hcm4, h⟩
  · rw [hc]
    refine ru_tableIn (off := 52) (tgt := 53) dX9_operand_1 (by decide) (by decide) (by decide) (by decide) ?_
    refine ru_iload_n (i := 3) dX9_operand_53 rfl rfl <| ?_
    cases h
    exact ru_ret (v := some (.int _)) ⟨_, rfl, rfl, dX9_operand_54⟩
  rcases ab_iff h with ⟨hc, h⟩ | ⟨hcm3, h⟩
  · rw [hc]
    refine ru_tableIn (off := 45) (tgt := 46) dX9_operand_1 (by decide) (by decide) (by decide) (by decide) ?_
    refine ru_aload_n (i := 1) dX9_operand_46 rfl rfl <| ru_iload_n (i := 2) dX9_operand_47 rfl rfl <| ru_iconst dX9_operand_48 kc_i_2 <| ?_
    obtain ⟨_, hrc, h⟩ := Option.bind_eq_some_iff.mp h
    obtain ⟨q1, hq1, h⟩ := Option.bind_eq_some_iff.mp h
    refine ru_callV (tm_X10_get hl0 (by omega) hq1) dX9_operand_49 rfl pm_X9_45 mf_X10_get (ab_rcv_of hrc rfl) rfl rfl (Nat.le_of_ble_eq_true rfl) ?_
    cases h
    exact ru_ret (v := some (.int _)) ⟨_, rfl, rfl, dX9_operand_52⟩
  rcases ab_iff h with ⟨hc, h⟩ | ⟨hcm2, h⟩
  · rw [hc]
    refine ru_tableIn (off := 38) (tgt := 39) dX9_operand_1 (by decide) (by decide) (by decide) (by decide) ?_
    refine ru_aload_n (i := 1) dX9_operand_39 rfl rfl <| ru_iload_n (i := 2) dX9_operand_40 rfl rfl <| ru_iconst dX9_operand_41 kc_i_1 <| ?_
    obtain ⟨_, hrc, h⟩ := Option.bind_eq_some_iff.mp h
    obtain ⟨q2, hq2, h⟩ := Option.bind_eq_some_iff.mp h
    refine ru_callV (tm_X10_get hl0 (by omega) hq2) dX9_operand_42 rfl pm_X9_45 mf_X10_get (ab_rcv_of hrc rfl) rfl rfl (Nat.le_of_ble_eq_true rfl) ?_
    cases h
    exact ru_ret (v := some (.int _)) ⟨_, rfl, rfl, dX9_operand_45⟩
  rcases ab_iff h with ⟨hc, h⟩ | ⟨hcm1, h⟩
  · rw [hc]
    refine ru_tableIn (off := 31) (tgt := 32) dX9_operand_1 (by decide) (by decide) (by decide) (by decide) ?_
    refine ru_aload_n (i := 1) dX9_operand_32 rfl rfl <| ru_iload_n (i := 2) dX9_operand_33 rfl rfl <| ru_iconst dX9_operand_34 kc_i_0 <| ?_
    obtain ⟨_, hrc, h⟩ := Option.bind_eq_some_iff.mp h
    obtain ⟨q3, hq3, h⟩ := Option.bind_eq_some_iff.mp h
    refine ru_callV (tm_X10_get hl0 (by omega) hq3) dX9_operand_35 rfl pm_X9_45 mf_X10_get (ab_rcv_of hrc rfl) rfl rfl (Nat.le_of_ble_eq_true rfl) ?_
    cases h
    exact ru_ret (v := some (.int _)) ⟨_, rfl, rfl, dX9_operand_38⟩
  have em4 := ab_ne_int hcm4 (by decide : (-4 : Int32).toInt = -4)
  have em3 := ab_ne_int hcm3 (by decide : (-3 : Int32).toInt = -3)
  have em2 := ab_ne_int hcm2 (by decide : (-2 : Int32).toInt = -2)
  have em1 := ab_ne_int hcm1 (by decide : (-1 : Int32).toInt = -1)
  refine ru_tableOut (tgt := 55) dX9_operand_1 (by omega) (by decide) ?_
  refine ru_iload_n (i := 0) dX9_operand_55 rfl rfl <| ?_
  cases h
  exact ru_ret (v := some (.int _)) ⟨_, rfl, rfl, dX9_operand_56⟩
theorem tm_X9_operand {l : Launch} {g : ab_G} (hl0 : l.stackTraces = false) {d : Nat} (hd : 2 ≤ d) {l0 : Int32} {l1 : Nat} {l2 : Int32} {l3 : Int32} {m : ab_Mm} {z : (Int32 × ab_Mm)} (h : dd_X9_operand l0 l1 l2 l3 m = some z) : ab_Met l g yX9_operand cX9_operand 4 (some .int) [] d [.int l0, .ref l1, .int l2, .int l3] m (.inl (some (.int z.1))) z.2 := by
  obtain ⟨d2, rfl⟩ : ∃ d2, d = d2 + 1 := ⟨d - 1, by omega⟩
  exact ab_of hl0 (by decide +kernel) (Nat.le_of_ble_eq_true rfl) (fun q => by cases q) rfl (te_X9_operand hl0 hd _ _ _ _ _ _ h)
theorem tbb_X9_value_146 {l : Launch} {g : ab_G} (hl0 : l.stackTraces = false) {d2 : Nat} (hd : 3 ≤ d2 + 1)   (s0 : Int32) (m0 : ab_Mm) (z : (Int32 × ab_Mm)) (h : bb_X9_value_146  s0 m0 = some z) : ab_W l g cX9_value RX9 7 (some .int) [] false (d2 + 1) (.inl (some (.int z.1))) z.2 146 [] [.int s0] m0 := by
  unfold bb_X9_value_146 at h
  cases h
  exact ru_ret (v := some (.int _)) ⟨_, rfl, rfl, dX9_value_146⟩
theorem tbb_X9_value_130 {l : Launch} {g : ab_G} (hl0 : l.stackTraces = false) {d2 : Nat} (hd : 3 ≤ d2 + 1)   (l0 : Nat) (l4 : Int32) (m0 : ab_Mm) (z : (Int32 × ab_Mm)) (h : bb_X9_value_130  l0 l4 m0 = some z) : ab_W l g cX9_value RX9 7 (some .int) [] false (d2 + 1) (.inl (some (.int z.1))) z.2 130 [(0, .ref l0), (4, .int l4)] [] m0 := by
  unfold bb_X9_value_130 at h
  refine ru_iload dX9_value_130 rfl <| ru_iconst dX9_value_132 kc_i_1 <| ?_
  refine ru_icmp_ne (tgt := 145) dX9_value_133 (by decide) (fun hc => ?_) (fun hc => ?_)
  · rw [if_neg hc] at h
    refine ru_iconst dX9_value_145 kc_i_0 <| ?_
    exact ru_pick [] rfl (tbb_X9_value_146 hl0 hd   _ _ _ h)
  · rw [if_pos hc] at h
    refine ru_aload_n (i := 0) dX9_value_136 rfl rfl <| ?_
    refine ru_getR h dX9_value_137 lk_X9_19 ?_
    intro v1 h
    refine ru_iconst dX9_value_140 kc_i_0 <| ?_
    refine ru_iaload h dX9_value_141 ?_
    intro v2 h
    refine ru_goto (tgt := 146) dX9_value_142 (by decide) <| ?_
    exact ru_pick [] rfl (tbb_X9_value_146 hl0 hd   _ _ _ h)
theorem tbb_X9_value_124 {l : Launch} {g : ab_G} (hl0 : l.stackTraces = false) {d2 : Nat} (hd : 3 ≤ d2 + 1) (r6 : Nat → Nat → Int32 → Int32 → Int32 → Int32 → ab_Mm → Option (Int32 × ab_Mm)) (hr6 : ∀ (l0 : Nat) (l1 : Nat) (l2 : Int32) (l3 : Int32) (l4 : Int32) (l5 : Int32) (m : ab_Mm) (z : (Int32 × ab_Mm)), r6 l0 l1 l2 l3 l4 l5 m = some z → ab_W l g cX9_value RX9 7 (some .int) [] false (d2 + 1) (.inl (some (.int z.1))) z.2 6 [(0, .ref l0), (1, .ref l1), (2, .int l2), (3, .int l3), (4, .int l4), (5, .int l5)] [] m) (l0 : Nat) (l1 : Nat) (l2 : Int32) (l3 : Int32) (l4 : Int32) (l5 : Int32) (m0 : ab_Mm) (z : (Int32 × ab_Mm)) (h : bb_X9_value_124 r6 l0 l1 l2 l3 l4 l5 m0 = some z) : ab_W l g cX9_value RX9 7 (some .int) [] false (d2 + 1) (.inl (some (.int z.1))) z.2 124 [(0, .ref l0), (1, .ref l1), (2, .int l2), (3, .int l3), (4, .int l4), (5, .int l5)] [] m0 := by
  unfold bb_X9_value_124 at h
  refine ru_iinc dX9_value_124 (by decide) rfl (ab_inc kc_i_1) <| ru_goto (tgt := 6) dX9_value_127 (by decide) <| ?_
  exact ru_pick [0, 1, 2, 3, 4, 5] rfl (hr6 _ _ _ _ _ _ _ _ h)
theorem tbb_X9_value_6 {l : Launch} {g : ab_G} (hl0 : l.stackTraces = false) {d2 : Nat} (hd : 3 ≤ d2 + 1)   : ∀ (n : Nat) (l0 : Nat) (l1 : Nat) (l2 : Int32) (l3 : Int32) (l4 : Int32) (l5 : Int32) (m0 : ab_Mm) (z : (Int32 × ab_Mm)), bb_X9_value_6  n l0 l1 l2 l3 l4 l5 m0 = some z → ab_W l g cX9_value RX9 7 (some .int) [] false (d2 + 1) (.inl (some (.int z.1))) z.2 6 [(0, .ref l0), (1, .ref l1), (2, .int l2), (3, .int l3), (4, .int l4), (5, .int l5)] [] m0 := by
  intro n
  induction n with
  | zero => intro l0 l1 l2 l3 l4 l5 m0 z h; cases h
  | succ n ih =>
    intro l0 l1 l2 l3 l4 l5 m0 z h
    rw [bb_X9_value_6] at h
    refine ru_iload dX9_value_6 rfl <| ru_aload_n (i := 0) dX9_value_8 rfl rfl <| ?_
    refine ru_getI h dX9_value_9 lk_X9_15 ?_
    intro v1 h
    refine ru_icmp_ge (tgt := 130) dX9_value_12 (by decide) (fun hc => ?_) (fun hc => ?_)
    · rw [if_pos hc] at h
      exact ru_pick [0, 4] rfl (tbb_X9_value_130 hl0 hd   _ _ _ _ h)
    · rw [if_neg hc] at h
      refine ru_iload dX9_value_15 rfl <| ru_aload_n (i := 0) dX9_value_17 rfl rfl <| ?_
      refine ru_getR h dX9_value_18 lk_X9_9 ?_
      intro v2 h
      refine ru_alen 0 h dX9_value_21 ?_
      intro v3 h
      refine ru_icmp_ge (tgt := 130) dX9_value_22 (by decide) (fun hc => ?_) (fun hc => ?_)
      · rw [if_pos hc] at h
        exact ru_pick [0, 4] rfl (tbb_X9_value_130 hl0 hd   _ _ _ _ h)
      · rw [if_neg hc] at h
        refine ru_aload_n (i := 0) dX9_value_25 rfl rfl <| ?_
        refine ru_getR h dX9_value_26 lk_X9_9 ?_
        intro v4 h
        refine ru_iload dX9_value_29 rfl <| ?_
        refine ru_iaload h dX9_value_31 ?_
        intro v5 h
        refine ru_istore dX9_value_32 (by decide) <| ru_iload dX9_value_34 rfl <| ru_bipush dX9_value_36 kc_b_m4 <| ?_
        refine ru_icmp_ge (tgt := 96) dX9_value_38 (by decide) (fun hc => ?_) (fun hc => ?_)
        · rw [if_pos hc] at h
          refine ru_iload dX9_value_96 rfl <| ru_aload_n (i := 0) dX9_value_98 rfl rfl <| ?_
          refine ru_getR h dX9_value_99 lk_X9_19 ?_
          intro v6 h
          refine ru_alen 0 h dX9_value_102 ?_
          intro v7 h
          refine ru_icmp_ge (tgt := 124) dX9_value_103 (by decide) (fun hc => ?_) (fun hc => ?_)
          · rw [if_pos hc] at h
            exact ru_pick [0, 1, 2, 3, 4, 5] rfl (tbb_X9_value_124 hl0 hd _ ih _ _ _ _ _ _ _ _ h)
          · rw [if_neg hc] at h
            refine ru_aload_n (i := 0) dX9_value_106 rfl rfl <| ?_
            refine ru_getR h dX9_value_107 lk_X9_19 ?_
            intro v8 h
            refine ru_iload dX9_value_110 rfl <| ru_iload dX9_value_112 rfl <| ru_aload_n (i := 1) dX9_value_114 rfl rfl <| ru_iload_n (i := 2) dX9_value_115 rfl rfl <| ru_iload_n (i := 3) dX9_value_116 rfl rfl <| ?_
            obtain ⟨q9, hq9, h⟩ := Option.bind_eq_some_iff.mp h
            refine ru_callS (tm_X9_operand hl0 (by omega) hq9) dX9_value_117 rfl pm_X9_41 mf_X9_operand rfl rfl (Nat.le_of_ble_eq_true rfl) ?_
            refine ru_iastore h dX9_value_120 ?_
            intro m10 h
            refine ru_iinc dX9_value_121 (by decide) rfl (ab_inc kc_i_1) <| ?_
            exact ru_pick [0, 1, 2, 3, 4, 5] rfl (tbb_X9_value_124 hl0 hd _ ih _ _ _ _ _ _ _ _ h)
        · rw [if_neg hc] at h
          refine ru_iload dX9_value_41 rfl <| ru_iconst dX9_value_43 kc_i_2 <| ?_
          refine ru_icmp_lt (tgt := 124) dX9_value_44 (by decide) (fun hc => ?_) (fun hc => ?_)
          · rw [if_pos hc] at h
            exact ru_pick [0, 1, 2, 3, 4, 5] rfl (tbb_X9_value_124 hl0 hd _ ih _ _ _ _ _ _ _ _ h)
          · rw [if_neg hc] at h
            refine ru_iload dX9_value_47 rfl <| ru_aload_n (i := 0) dX9_value_49 rfl rfl <| ?_
            refine ru_getR h dX9_value_50 lk_X9_19 ?_
            intro v11 h
            refine ru_alen 0 h dX9_value_53 ?_
            intro v12 h
            refine ru_icmp_gt (tgt := 124) dX9_value_54 (by decide) (fun hc => ?_) (fun hc => ?_)
            · rw [if_pos hc] at h
              exact ru_pick [0, 1, 2, 3, 4, 5] rfl (tbb_X9_value_124 hl0 hd _ ih _ _ _ _ _ _ _ _ h)
            · rw [if_neg hc] at h
              refine ru_aload_n (i := 0) dX9_value_57 rfl rfl <| ?_
              refine ru_getR h dX9_value_58 lk_X9_19 ?_
              intro v13 h
              refine ru_iload dX9_value_61 rfl <| ru_iconst dX9_value_63 kc_i_2 <| ru_isub dX9_value_64 <| ru_iload dX9_value_65 rfl <| ru_ineg dX9_value_67 <| ru_aload_n (i := 0) dX9_value_68 rfl rfl <| ?_
              refine ru_getR h dX9_value_69 lk_X9_19 ?_
              intro v14 h
              refine ru_iload dX9_value_72 rfl <| ru_iconst dX9_value_74 kc_i_2 <| ru_isub dX9_value_75 <| ?_
              refine ru_iaload h dX9_value_76 ?_
              intro v15 h
              refine ru_aload_n (i := 0) dX9_value_77 rfl rfl <| ?_
              refine ru_getR h dX9_value_78 lk_X9_19 ?_
              intro v16 h
              refine ru_iload dX9_value_81 rfl <| ru_iconst dX9_value_83 kc_i_1 <| ru_isub dX9_value_84 <| ?_
              refine ru_iaload h dX9_value_85 ?_
              intro v17 h
              obtain ⟨q18, hq18, h⟩ := Option.bind_eq_some_iff.mp h
              refine ru_callS (tm_X9_apply hl0 (by omega) hq18) dX9_value_86 rfl pm_X9_37 mf_X9_apply rfl rfl (Nat.le_of_ble_eq_true rfl) ?_
              refine ru_iastore h dX9_value_89 ?_
              intro m19 h
              refine ru_iinc dX9_value_90 (by decide) rfl (ab_inc kc_i_m1) <| ru_goto (tgt := 124) dX9_value_93 (by decide) <| ?_
              exact ru_pick [0, 1, 2, 3, 4, 5] rfl (tbb_X9_value_124 hl0 hd _ ih _ _ _ _ _ _ _ _ h)
theorem te_X9_value {l : Launch} {g : ab_G} (hl0 : l.stackTraces = false) {d2 : Nat} (hd : 3 ≤ d2 + 1)   (l0 : Nat) (l1 : Nat) (l2 : Int32) (l3 : Int32) (m0 : ab_Mm) (z : (Int32 × ab_Mm)) (h : dd_X9_value  l0 l1 l2 l3 m0 = some z) : ab_W l g cX9_value RX9 7 (some .int) [] false (d2 + 1) (.inl (some (.int z.1))) z.2 0 [(0, .ref l0), (1, .ref l1), (2, .int l2), (3, .int l3)] [] m0 := by
  unfold dd_X9_value at h
  refine ru_iconst dX9_value_0 kc_i_0 <| ru_istore dX9_value_1 (by decide) <| ru_iconst dX9_value_3 kc_i_0 <| ru_istore dX9_value_4 (by decide) <| ?_
  exact ru_pick [0, 1, 2, 3, 4, 5] rfl (tbb_X9_value_6 hl0 hd   _ _ _ _ _ _ _ _ _ h)
theorem tm_X9_value {l : Launch} {g : ab_G} (hl0 : l.stackTraces = false) {d : Nat} (hd : 3 ≤ d) {l0 : Nat} {l1 : Nat} {l2 : Int32} {l3 : Int32} {m : ab_Mm} {z : (Int32 × ab_Mm)} (h : dd_X9_value l0 l1 l2 l3 m = some z) : ab_Met l g yX9_value cX9_value 7 (some .int) [] d [.ref l0, .ref l1, .int l2, .int l3] m (.inl (some (.int z.1))) z.2 := by
  obtain ⟨d2, rfl⟩ : ∃ d2, d = d2 + 1 := ⟨d - 1, by omega⟩
  exact ab_of hl0 (by decide +kernel) (Nat.le_of_ble_eq_true rfl) (fun q => by cases q) rfl (te_X9_value hl0 hd _ _ _ _ _ _ h)
