/-! ===== the methods keep to these functions (by program) ===== -/
theorem tbb_X12_regulars_59 {l : Launch} {g : ab_G} (hl0 : l.stackTraces = false) {d2 : Nat} (hd : 3 ≤ d2 + 1) (r5 : Nat → Int32 → Int32 → Int32 → Int32 → ab_Mm → Option (Int32 × ab_Mm)) (hr5 : ∀ (l0 : Nat) (l1 : Int32) (l2 : Int32) (l3 : Int32) (l4 : Int32) (m : ab_Mm) (z : (Int32 × ab_Mm)), r5 l0 l1 l2 l3 l4 m = some z → ab_W l g cX12_regulars RX12 5 (some .int) [] false (d2 + 1) (.inl (some (.int z.1))) z.2 5 [(0, .ref l0), (1, .int l1), (2, .int l2), (3, .int l3), (4, .int l4)] [] m) (l0 : Nat) (l1 : Int32) (l2 : Int32) (l4 : Int32) (s0 : Int32) (m0 : ab_Mm) (z : (Int32 × ab_Mm)) (h : bb_X12_regulars_59 r5 l0 l1 l2 l4 s0 m0 = some z) : ab_W l g cX12_regulars RX12 5 (some .int) [] false (d2 + 1) (.inl (some (.int z.1))) z.2 59 [(0, .ref l0), (1, .int l1), (2, .int l2), (4, .int l4)] [.int s0] m0 := by
  unfold bb_X12_regulars_59 at h
  refine ru_iconst dX12_regulars_59 kc_i_0 <| ?_
  exact ru_pick [0, 1, 2, 4] rfl (tbb_X12_regulars_60 hl0 hd _ hr5 _ _ _ _ _ _ _ _ h)
theorem tbb_X12_regulars_5 {l : Launch} {g : ab_G} (hl0 : l.stackTraces = false) {d2 : Nat} (hd : 3 ≤ d2 + 1)   : ∀ (n : Nat) (l0 : Nat) (l1 : Int32) (l2 : Int32) (l3 : Int32) (l4 : Int32) (m0 : ab_Mm) (z : (Int32 × ab_Mm)), bb_X12_regulars_5  n l0 l1 l2 l3 l4 m0 = some z → ab_W l g cX12_regulars RX12 5 (some .int) [] false (d2 + 1) (.inl (some (.int z.1))) z.2 5 [(0, .ref l0), (1, .int l1), (2, .int l2), (3, .int l3), (4, .int l4)] [] m0 := by
  intro n
  induction n with
  | zero => intro l0 l1 l2 l3 l4 m0 z h; cases h
  | succ n ih =>
    intro l0 l1 l2 l3 l4 m0 z h
    rw [bb_X12_regulars_5] at h
    refine ru_iload dX12_regulars_5 rfl <| ru_bipush dX12_regulars_7 kc_b_12 <| ?_
    refine ru_icmp_ge (tgt := 68) dX12_regulars_9 (by decide) (fun hc => ?_) (fun hc => ?_)
    · rw [if_pos hc] at h
      refine ru_iload_n (i := 3) dX12_regulars_68 rfl rfl <| ?_
      cases h
      exact ru_ret (v := some (.int _)) ⟨_, rfl, rfl, dX12_regulars_69⟩
    · rw [if_neg hc] at h
      refine ru_iload_n (i := 3) dX12_regulars_12 rfl rfl <| ru_aload_n (i := 0) dX12_regulars_13 rfl rfl <| ru_iload dX12_regulars_14 rfl <| ?_
      obtain ⟨_, hrc, h⟩ := Option.bind_eq_some_iff.mp h
      obtain ⟨q1, hq1, h⟩ := Option.bind_eq_some_iff.mp h
      refine ru_callV (tm_X12_runs hl0 (by omega) hq1) dX12_regulars_16 rfl pm_X12_264 mf_X12_runs (ab_rcv_of hrc rfl) rfl rfl (Nat.le_of_ble_eq_true rfl) ?_
      refine ru_if_eq (tgt := 59) dX12_regulars_19 (by decide) (fun hc => ?_) (fun hc => ?_)
      · rw [if_pos hc] at h
        exact ru_pick [0, 1, 2, 4] rfl (tbb_X12_regulars_59 hl0 hd _ ih _ _ _ _ _ _ _ h)
      · rw [if_neg hc] at h
        refine ru_aload_n (i := 0) dX12_regulars_22 rfl rfl <| ru_iload dX12_regulars_23 rfl <| ru_iconst dX12_regulars_25 kc_i_0 <| ?_
        obtain ⟨_, hrc, h⟩ := Option.bind_eq_some_iff.mp h
        obtain ⟨q2, hq2, h⟩ := Option.bind_eq_some_iff.mp h
        refine ru_callV (tm_X12_its hl0 (by omega) hq2) dX12_regulars_26 rfl pm_X12_242 mf_X12_its (ab_rcv_of hrc rfl) rfl rfl (Nat.le_of_ble_eq_true rfl) ?_
        refine ru_iload_n (i := 1) dX12_regulars_29 rfl rfl <| ?_
        refine ru_icmp_ne (tgt := 59) dX12_regulars_30 (by decide) (fun hc => ?_) (fun hc => ?_)
        · rw [if_neg hc] at h
          exact ru_pick [0, 1, 2, 4] rfl (tbb_X12_regulars_59 hl0 hd _ ih _ _ _ _ _ _ _ h)
        · rw [if_pos hc] at h
          refine ru_aload_n (i := 0) dX12_regulars_33 rfl rfl <| ru_iload dX12_regulars_34 rfl <| ru_iconst dX12_regulars_36 kc_i_1 <| ?_
          obtain ⟨_, hrc, h⟩ := Option.bind_eq_some_iff.mp h
          obtain ⟨q3, hq3, h⟩ := Option.bind_eq_some_iff.mp h
          refine ru_callV (tm_X12_its hl0 (by omega) hq3) dX12_regulars_37 rfl pm_X12_242 mf_X12_its (ab_rcv_of hrc rfl) rfl rfl (Nat.le_of_ble_eq_true rfl) ?_
          refine ru_iload_n (i := 2) dX12_regulars_40 rfl rfl <| ?_
          refine ru_icmp_ne (tgt := 59) dX12_regulars_41 (by decide) (fun hc => ?_) (fun hc => ?_)
          · rw [if_neg hc] at h
            exact ru_pick [0, 1, 2, 4] rfl (tbb_X12_regulars_59 hl0 hd _ ih _ _ _ _ _ _ _ h)
          · rw [if_pos hc] at h
            refine ru_aload_n (i := 0) dX12_regulars_44 rfl rfl <| ru_iload dX12_regulars_45 rfl <| ru_iconst dX12_regulars_47 kc_i_3 <| ?_
            obtain ⟨_, hrc, h⟩ := Option.bind_eq_some_iff.mp h
            obtain ⟨q4, hq4, h⟩ := Option.bind_eq_some_iff.mp h
            refine ru_callV (tm_X12_its hl0 (by omega) hq4) dX12_regulars_48 rfl pm_X12_242 mf_X12_its (ab_rcv_of hrc rfl) rfl rfl (Nat.le_of_ble_eq_true rfl) ?_
            refine ru_iconst dX12_regulars_51 kc_i_m1 <| ?_
            refine ru_icmp_ne (tgt := 59) dX12_regulars_52 (by decide) (fun hc => ?_) (fun hc => ?_)
            · rw [if_neg hc] at h
              exact ru_pick [0, 1, 2, 4] rfl (tbb_X12_regulars_59 hl0 hd _ ih _ _ _ _ _ _ _ h)
            · rw [if_pos hc] at h
              refine ru_iconst dX12_regulars_55 kc_i_1 <| ru_goto (tgt := 60) dX12_regulars_56 (by decide) <| ?_
              exact ru_pick [0, 1, 2, 4] rfl (tbb_X12_regulars_60 hl0 hd _ ih _ _ _ _ _ _ _ _ h)
theorem te_X12_regulars {l : Launch} {g : ab_G} (hl0 : l.stackTraces = false) {d2 : Nat} (hd : 3 ≤ d2 + 1)   (l0 : Nat) (l1 : Int32) (l2 : Int32) (m0 : ab_Mm) (z : (Int32 × ab_Mm)) (h : dd_X12_regulars  l0 l1 l2 m0 = some z) : ab_W l g cX12_regulars RX12 5 (some .int) [] false (d2 + 1) (.inl (some (.int z.1))) z.2 0 [(0, .ref l0), (1, .int l1), (2, .int l2)] [] m0 := by
  unfold dd_X12_regulars at h
  refine ru_iconst dX12_regulars_0 kc_i_0 <| ru_istore_n (i := 3) dX12_regulars_1 rfl (by decide) <| ru_iconst dX12_regulars_2 kc_i_0 <| ru_istore dX12_regulars_3 (by decide) <| ?_
  exact ru_pick [0, 1, 2, 3, 4] rfl (tbb_X12_regulars_5 hl0 hd   _ _ _ _ _ _ _ _ h)
theorem tm_X12_regulars {l : Launch} {g : ab_G} (hl0 : l.stackTraces = false) {d : Nat} (hd : 3 ≤ d) {l0 : Nat} {l1 : Int32} {l2 : Int32} {m : ab_Mm} {z : (Int32 × ab_Mm)} (h : dd_X12_regulars l0 l1 l2 m = some z) : ab_Met l g yX12_regulars cX12_regulars 5 (some .int) [] d [.ref l0, .int l1, .int l2] m (.inl (some (.int z.1))) z.2 := by
  obtain ⟨d2, rfl⟩ : ∃ d2, d = d2 + 1 := ⟨d - 1, by omega⟩
  exact ab_of hl0 (by decide +kernel) (Nat.le_of_ble_eq_true rfl) (fun q => by cases q) rfl (te_X12_regulars hl0 hd _ _ _ _ _ h)
theorem te_X12_isActive {l : Launch} {g : ab_G} (hl0 : l.stackTraces = false) {d2 : Nat} (hd : 2 ≤ d2 + 1)   (l0 : Nat) (l1 : Int32) (m0 : ab_Mm) (z : (Int32 × ab_Mm)) (h : dd_X12_isActive  l0 l1 m0 = some z) : ab_W l g cX12_isActive RX12 2 (some .boolean) [] false (d2 + 1) (.inl (some (.int z.1))) z.2 0 [(0, .ref l0), (1, .int l1)] [] m0 := by
  unfold dd_X12_isActive at h
  refine ru_aload_n (i := 0) dX12_isActive_0 rfl rfl <| ?_
  refine ru_getR h dX12_isActive_1 lk_X12_7 ?_
  intro v1 h
  refine ru_iconst dX12_isActive_4 kc_i_0 <| ?_
  refine ru_laload h dX12_isActive_5 ?_
  intro v2 h
  refine ru_aload_n (i := 0) dX12_isActive_6 rfl rfl <| ?_
  refine ru_getR h dX12_isActive_7 lk_X12_26 ?_
  intro v3 h
  refine ru_bipush dX12_isActive_10 kc_b_6 <| ru_iload_n (i := 1) dX12_isActive_12 rfl rfl <| ru_imul dX12_isActive_13 <| ru_iconst dX12_isActive_14 kc_i_3 <| ru_iadd dX12_isActive_15 <| ?_
  refine ru_iaload h dX12_isActive_16 ?_
  intro v4 h
  refine ru_i2l dX12_isActive_17 <| ru_aload_n (i := 0) dX12_isActive_18 rfl rfl <| ?_
  refine ru_getR h dX12_isActive_19 lk_X12_26 ?_
  intro v5 h
  refine ru_bipush dX12_isActive_22 kc_b_6 <| ru_iload_n (i := 1) dX12_isActive_24 rfl rfl <| ru_imul dX12_isActive_25 <| ru_iconst dX12_isActive_26 kc_i_4 <| ru_iadd dX12_isActive_27 <| ?_
  refine ru_iaload h dX12_isActive_28 ?_
  intro v6 h
  refine ru_iconst dX12_isActive_29 kc_i_1 <| ru_isub dX12_isActive_30 <| ru_i2l dX12_isActive_31 <| ?_
  obtain ⟨q7, hq7, h⟩ := Option.bind_eq_some_iff.mp h
  refine ru_callS (tm_X12_within hl0 (by omega) hq7) dX12_isActive_32 rfl pm_X12_124 mf_X12_within rfl rfl (Nat.le_of_ble_eq_true rfl) ?_
  rcases ab_iff h with ⟨hc, h⟩ | ⟨hc, h⟩
  · cases h
  cases h
  exact ru_ret (v := some (.int _)) ⟨_, rfl, congrArg Value.int (Classical.not_not.mp hc), dX12_isActive_35⟩
theorem tm_X12_isActive {l : Launch} {g : ab_G} (hl0 : l.stackTraces = false) {d : Nat} (hd : 2 ≤ d) {l0 : Nat} {l1 : Int32} {m : ab_Mm} {z : (Int32 × ab_Mm)} (h : dd_X12_isActive l0 l1 m = some z) : ab_Met l g yX12_isActive cX12_isActive 2 (some .boolean) [] d [.ref l0, .int l1] m (.inl (some (.int z.1))) z.2 := by
  obtain ⟨d2, rfl⟩ : ∃ d2, d = d2 + 1 := ⟨d - 1, by omega⟩
  exact ab_of hl0 (by decide +kernel) (Nat.le_of_ble_eq_true rfl) (fun q => by cases q) rfl (te_X12_isActive hl0 hd _ _ _ _ h)
theorem te_X12_payment {l : Launch} {g : ab_G} (hl0 : l.stackTraces = false) {d2 : Nat} (hd : 1 ≤ d2 + 1)   (l0 : Nat) (l1 : Int32) (m0 : ab_Mm) (z : (Int32 × ab_Mm)) (h : dd_X12_payment  l0 l1 m0 = some z) : ab_W l g cX12_payment RX12 2 (some .int) [] false (d2 + 1) (.inl (some (.int z.1))) z.2 0 [(0, .ref l0), (1, .int l1)] [] m0 := by
  unfold dd_X12_payment at h
  refine ru_aload_n (i := 0) dX12_payment_0 rfl rfl <| ?_
  refine ru_getR h dX12_payment_1 lk_X12_26 ?_
  intro v1 h
  refine ru_bipush dX12_payment_4 kc_b_6 <| ru_iload_n (i := 1) dX12_payment_6 rfl rfl <| ru_imul dX12_payment_7 <| ru_iconst dX12_payment_8 kc_i_2 <| ru_iadd dX12_payment_9 <| ?_
  refine ru_iaload h dX12_payment_10 ?_
  intro v2 h
  refine ru_aload_n (i := 0) dX12_payment_11 rfl rfl <| ?_
  refine ru_getR h dX12_payment_12 lk_X12_20 ?_
  intro v3 h
  refine ru_iconst dX12_payment_15 kc_i_3 <| ru_aload_n (i := 0) dX12_payment_16 rfl rfl <| ?_
  refine ru_getR h dX12_payment_17 lk_X12_26 ?_
  intro v4 h
  refine ru_bipush dX12_payment_20 kc_b_6 <| ru_iload_n (i := 1) dX12_payment_22 rfl rfl <| ru_imul dX12_payment_23 <| ru_iconst dX12_payment_24 kc_i_1 <| ru_iadd dX12_payment_25 <| ?_
  refine ru_iaload h dX12_payment_26 ?_
  intro v5 h
  refine ru_imul dX12_payment_27 <| ru_iconst dX12_payment_28 kc_i_2 <| ru_iadd dX12_payment_29 <| ?_
  refine ru_iaload h dX12_payment_30 ?_
  intro v6 h
  refine ru_bipush dX12_payment_31 kc_b_100 <| ru_aload_n (i := 0) dX12_payment_33 rfl rfl <| ?_
  refine ru_getR h dX12_payment_34 lk_X12_26 ?_
  intro v7 h
  refine ru_bipush dX12_payment_37 kc_b_6 <| ru_iload_n (i := 1) dX12_payment_39 rfl rfl <| ru_imul dX12_payment_40 <| ru_iconst dX12_payment_41 kc_i_5 <| ru_iadd dX12_payment_42 <| ?_
  refine ru_iaload h dX12_payment_43 ?_
  intro v8 h
  refine ru_isub dX12_payment_44 <| ru_imul dX12_payment_45 <| ru_bipush dX12_payment_46 kc_b_100 <| ?_
  rcases ab_iff h with ⟨hc, h⟩ | ⟨hc, h⟩
  · cases h
  refine ru_idiv dX12_payment_48 hc ?_
  refine ru_imul dX12_payment_49 <| ?_
  cases h
  exact ru_ret (v := some (.int _)) ⟨_, rfl, rfl, dX12_payment_50⟩
theorem tm_X12_payment {l : Launch} {g : ab_G} (hl0 : l.stackTraces = false) {d : Nat} (hd : 1 ≤ d) {l0 : Nat} {l1 : Int32} {m : ab_Mm} {z : (Int32 × ab_Mm)} (h : dd_X12_payment l0 l1 m = some z) : ab_Met l g yX12_payment cX12_payment 2 (some .int) [] d [.ref l0, .int l1] m (.inl (some (.int z.1))) z.2 := by
  obtain ⟨d2, rfl⟩ : ∃ d2, d = d2 + 1 := ⟨d - 1, by omega⟩
  exact ab_of hl0 (by decide +kernel) (Nat.le_of_ble_eq_true rfl) (fun q => by cases q) rfl (te_X12_payment hl0 hd _ _ _ _ h)
theorem tbb_X12_coveredBy_100 {l : Launch} {g : ab_G} (hl0 : l.stackTraces = false) {d2 : Nat} (hd : 4 ≤ d2 + 1)   (s0 : Int32) (m0 : ab_Mm) (z : (Int32 × ab_Mm)) (h : bb_X12_coveredBy_100  s0 m0 = some z) : ab_W l g cX12_coveredBy RX12 5 (some .int) [] false (d2 + 1) (.inl (some (.int z.1))) z.2 100 [] [.int s0] m0 := by
  unfold bb_X12_coveredBy_100 at h
  cases h
  exact ru_ret (v := some (.int _)) ⟨_, rfl, rfl, dX12_coveredBy_100⟩
theorem tbb_X12_coveredBy_72 {l : Launch} {g : ab_G} (hl0 : l.stackTraces = false) {d2 : Nat} (hd : 4 ≤ d2 + 1) (r5 : Nat → Int32 → Int32 → Int32 → Int32 → ab_Mm → Option (Int32 × ab_Mm)) (hr5 : ∀ (l0 : Nat) (l1 : Int32) (l2 : Int32) (l3 : Int32) (l4 : Int32) (m : ab_Mm) (z : (Int32 × ab_Mm)), r5 l0 l1 l2 l3 l4 m = some z → ab_W l g cX12_coveredBy RX12 5 (some .int) [] false (d2 + 1) (.inl (some (.int z.1))) z.2 5 [(0, .ref l0), (1, .int l1), (2, .int l2), (3, .int l3), (4, .int l4)] [] m) (l0 : Nat) (l1 : Int32) (l2 : Int32) (l4 : Int32) (s0 : Int32) (s1 : Int32) (m0 : ab_Mm) (z : (Int32 × ab_Mm)) (h : bb_X12_coveredBy_72 r5 l0 l1 l2 l4 s0 s1 m0 = some z) : ab_W l g cX12_coveredBy RX12 5 (some .int) [] false (d2 + 1) (.inl (some (.int z.1))) z.2 72 [(0, .ref l0), (1, .int l1), (2, .int l2), (4, .int l4)] [.int s1, .int s0] m0 := by
  unfold bb_X12_coveredBy_72 at h
  refine ru_iadd dX12_coveredBy_72 <| ru_istore_n (i := 3) dX12_coveredBy_73 rfl (by decide) <| ru_iinc dX12_coveredBy_74 (by decide) rfl (ab_inc kc_i_1) <| ru_goto (tgt := 5) dX12_coveredBy_77 (by decide) <| ?_
  exact ru_pick [0, 1, 2, 3, 4] rfl (hr5 _ _ _ _ _ _ _ h)
theorem tbb_X12_coveredBy_71 {l : Launch} {g : ab_G} (hl0 : l.stackTraces = false) {d2 : Nat} (hd : 4 ≤ d2 + 1) (r5 : Nat → Int32 → Int32 → Int32 → Int32 → ab_Mm → Option (Int32 × ab_Mm)) (hr5 : ∀ (l0 : Nat) (l1 : Int32) (l2 : Int32) (l3 : Int32) (l4 : Int32) (m : ab_Mm) (z : (Int32 × ab_Mm)), r5 l0 l1 l2 l3 l4 m = some z → ab_W l g cX12_coveredBy RX12 5 (some .int) [] false (d2 + 1) (.inl (some (.int z.1))) z.2 5 [(0, .ref l0), (1, .int l1), (2, .int l2), (3, .int l3), (4, .int l4)] [] m) (l0 : Nat) (l1 : Int32) (l2 : Int32) (l4 : Int32) (s0 : Int32) (m0 : ab_Mm) (z : (Int32 × ab_Mm)) (h : bb_X12_coveredBy_71 r5 l0 l1 l2 l4 s0 m0 = some z) : ab_W l g cX12_coveredBy RX12 5 (some .int) [] false (d2 + 1) (.inl (some (.int z.1))) z.2 71 [(0, .ref l0), (1, .int l1), (2, .int l2), (4, .int l4)] [.int s0] m0 := by
  unfold bb_X12_coveredBy_71 at h
  refine ru_iconst dX12_coveredBy_71 kc_i_0 <| ?_
  exact ru_pick [0, 1, 2, 4] rfl (tbb_X12_coveredBy_72 hl0 hd _ hr5 _ _ _ _ _ _ _ _ h)
theorem tbb_X12_coveredBy_5 {l : Launch} {g : ab_G} (hl0 : l.stackTraces = false) {d2 : Nat} (hd : 4 ≤ d2 + 1)   : ∀ (n : Nat) (l0 : Nat) (l1 : Int32) (l2 : Int32) (l3 : Int32) (l4 : Int32) (m0 : ab_Mm) (z : (Int32 × ab_Mm)), bb_X12_coveredBy_5  n l0 l1 l2 l3 l4 m0 = some z → ab_W l g cX12_coveredBy RX12 5 (some .int) [] false (d2 + 1) (.inl (some (.int z.1))) z.2 5 [(0, .ref l0), (1, .int l1), (2, .int l2), (3, .int l3), (4, .int l4)] [] m0 := by
  intro n
  induction n with
  | zero => intro l0 l1 l2 l3 l4 m0 z h; cases h
  | succ n ih =>
    intro l0 l1 l2 l3 l4 m0 z h
    rw [bb_X12_coveredBy_5] at h
    refine ru_iload dX12_coveredBy_5 rfl <| ru_aload_n (i := 0) dX12_coveredBy_7 rfl rfl <| ?_
    refine ru_getR h dX12_coveredBy_8 lk_X12_13 ?_
    intro v1 h
    refine ru_iconst dX12_coveredBy_11 kc_i_3 <| ?_
    refine ru_iaload h dX12_coveredBy_12 ?_
    intro v2 h
    refine ru_icmp_ge (tgt := 80) dX12_coveredBy_13 (by decide) (fun hc => ?_) (fun hc => ?_)
    · rw [if_pos hc] at h
      refine ru_aload_n (i := 0) dX12_coveredBy_80 rfl rfl <| ru_iload_n (i := 1) dX12_coveredBy_81 rfl rfl <| ru_iload_n (i := 2) dX12_coveredBy_82 rfl rfl <| ?_
      obtain ⟨_, hrc, h⟩ := Option.bind_eq_some_iff.mp h
      obtain ⟨q3, hq3, h⟩ := Option.bind_eq_some_iff.mp h
      refine ru_callV (tm_X12_regulars hl0 (by omega) hq3) dX12_coveredBy_83 rfl pm_X12_320 mf_X12_regulars (ab_rcv_of hrc rfl) rfl rfl (Nat.le_of_ble_eq_true rfl) ?_
      refine ru_istore dX12_coveredBy_86 (by decide) <| ru_iload_n (i := 3) dX12_coveredBy_88 rfl rfl <| ru_iload dX12_coveredBy_89 rfl <| ?_
      refine ru_icmp_ge (tgt := 98) dX12_coveredBy_91 (by decide) (fun hc => ?_) (fun hc => ?_)
      · rw [if_pos hc] at h
        refine ru_iload dX12_coveredBy_98 rfl <| ?_
        exact ru_pick [] rfl (tbb_X12_coveredBy_100 hl0 hd   _ _ _ h)
      · rw [if_neg hc] at h
        refine ru_iload_n (i := 3) dX12_coveredBy_94 rfl rfl <| ru_goto (tgt := 100) dX12_coveredBy_95 (by decide) <| ?_
        exact ru_pick [] rfl (tbb_X12_coveredBy_100 hl0 hd   _ _ _ h)
    · rw [if_neg hc] at h
      refine ru_iload_n (i := 3) dX12_coveredBy_16 rfl rfl <| ru_aload_n (i := 0) dX12_coveredBy_17 rfl rfl <| ?_
      refine ru_getR h dX12_coveredBy_18 lk_X12_26 ?_
      intro v4 h
      refine ru_bipush dX12_coveredBy_21 kc_b_6 <| ru_iload dX12_coveredBy_23 rfl <| ru_imul dX12_coveredBy_25 <| ?_
      refine ru_iaload h dX12_coveredBy_26 ?_
      intro v5 h
      refine ru_iload_n (i := 1) dX12_coveredBy_27 rfl rfl <| ?_
      refine ru_icmp_ne (tgt := 71) dX12_coveredBy_28 (by decide) (fun hc => ?_) (fun hc => ?_)
      · rw [if_neg hc] at h
        exact ru_pick [0, 1, 2, 4] rfl (tbb_X12_coveredBy_71 hl0 hd _ ih _ _ _ _ _ _ _ h)
      · rw [if_pos hc] at h
        refine ru_aload_n (i := 0) dX12_coveredBy_31 rfl rfl <| ?_
        refine ru_getR h dX12_coveredBy_32 lk_X12_26 ?_
        intro v6 h
        refine ru_bipush dX12_coveredBy_35 kc_b_6 <| ru_iload dX12_coveredBy_37 rfl <| ru_imul dX12_coveredBy_39 <| ru_iconst dX12_coveredBy_40 kc_i_1 <| ru_iadd dX12_coveredBy_41 <| ?_
        refine ru_iaload h dX12_coveredBy_42 ?_
        intro v7 h
        refine ru_iload_n (i := 2) dX12_coveredBy_43 rfl rfl <| ?_
        refine ru_icmp_ne (tgt := 71) dX12_coveredBy_44 (by decide) (fun hc => ?_) (fun hc => ?_)
        · rw [if_neg hc] at h
          exact ru_pick [0, 1, 2, 4] rfl (tbb_X12_coveredBy_71 hl0 hd _ ih _ _ _ _ _ _ _ h)
        · rw [if_pos hc] at h
          refine ru_aload_n (i := 0) dX12_coveredBy_47 rfl rfl <| ru_iload dX12_coveredBy_48 rfl <| ?_
          obtain ⟨_, hrc, h⟩ := Option.bind_eq_some_iff.mp h
          obtain ⟨q8, hq8, h⟩ := Option.bind_eq_some_iff.mp h
          refine ru_callV (tm_X12_isActive hl0 (by omega) hq8) dX12_coveredBy_50 rfl pm_X12_317 mf_X12_isActive (ab_rcv_of hrc rfl) rfl rfl (Nat.le_of_ble_eq_true rfl) ?_
          refine ru_if_eq (tgt := 71) dX12_coveredBy_53 (by decide) (fun hc => ?_) (fun hc => ?_)
          · rw [if_pos hc] at h
            exact ru_pick [0, 1, 2, 4] rfl (tbb_X12_coveredBy_71 hl0 hd _ ih _ _ _ _ _ _ _ h)
          · rw [if_neg hc] at h
            refine ru_aload_n (i := 0) dX12_coveredBy_56 rfl rfl <| ?_
            refine ru_getR h dX12_coveredBy_57 lk_X12_26 ?_
            intro v9 h
            refine ru_bipush dX12_coveredBy_60 kc_b_6 <| ru_iload dX12_coveredBy_62 rfl <| ru_imul dX12_coveredBy_64 <| ru_iconst dX12_coveredBy_65 kc_i_2 <| ru_iadd dX12_coveredBy_66 <| ?_
            refine ru_iaload h dX12_coveredBy_67 ?_
            intro v10 h
            refine ru_goto (tgt := 72) dX12_coveredBy_68 (by decide) <| ?_
            exact ru_pick [0, 1, 2, 4] rfl (tbb_X12_coveredBy_72 hl0 hd _ ih _ _ _ _ _ _ _ _ h)
theorem te_X12_coveredBy {l : Launch} {g : ab_G} (hl0 : l.stackTraces = false) {d2 : Nat} (hd : 4 ≤ d2 + 1)   (l0 : Nat) (l1 : Int32) (l2 : Int32) (m0 : ab_Mm) (z : (Int32 × ab_Mm)) (h : dd_X12_coveredBy  l0 l1 l2 m0 = some z) : ab_W l g cX12_coveredBy RX12 5 (some .int) [] false (d2 + 1) (.inl (some (.int z.1))) z.2 0 [(0, .ref l0), (1, .int l1), (2, .int l2)] [] m0 := by
  unfold dd_X12_coveredBy at h
  refine ru_iconst dX12_coveredBy_0 kc_i_0 <| ru_istore_n (i := 3) dX12_coveredBy_1 rfl (by decide) <| ru_iconst dX12_coveredBy_2 kc_i_0 <| ru_istore dX12_coveredBy_3 (by decide) <| ?_
  exact ru_pick [0, 1, 2, 3, 4] rfl (tbb_X12_coveredBy_5 hl0 hd   _ _ _ _ _ _ _ _ h)
theorem tm_X12_coveredBy {l : Launch} {g : ab_G} (hl0 : l.stackTraces = false) {d : Nat} (hd : 4 ≤ d) {l0 : Nat} {l1 : Int32} {l2 : Int32} {m : ab_Mm} {z : (Int32 × ab_Mm)} (h : dd_X12_coveredBy l0 l1 l2 m = some z) : ab_Met l g yX12_coveredBy cX12_coveredBy 5 (some .int) [] d [.ref l0, .int l1, .int l2] m (.inl (some (.int z.1))) z.2 := by
  obtain ⟨d2, rfl⟩ : ∃ d2, d = d2 + 1 := ⟨d - 1, by omega⟩
  exact ab_of hl0 (by decide +kernel) (Nat.le_of_ble_eq_true rfl) (fun q => by cases q) rfl (te_X12_coveredBy hl0 hd _ _ _ _ _ h)
theorem tbb_X12_billOf_153 {l : Launch} {g : ab_G} (hl0 : l.stackTraces = false) {d2 : Nat} (hd : 5 ≤ d2 + 1) (r100 : Nat → Int32 → Int32 → Int32 → ab_Mm → Option (Int32 × ab_Mm)) (hr100 : ∀ (l0 : Nat) (l1 : Int32) (l2 : Int32) (l3 : Int32) (m : ab_Mm) (z : (Int32 × ab_Mm)), r100 l0 l1 l2 l3 m = some z → ab_W l g cX12_billOf RX12 4 (some .int) [] false (d2 + 1) (.inl (some (.int z.1))) z.2 100 [(0, .ref l0), (1, .int l1), (2, .int l2), (3, .int l3)] [] m) (l0 : Nat) (l1 : Int32) (l3 : Int32) (s0 : Int32) (s1 : Int32) (m0 : ab_Mm) (z : (Int32 × ab_Mm)) (h : bb_X12_billOf_153 r100 l0 l1 l3 s0 s1 m0 = some z) : ab_W l g cX12_billOf RX12 4 (some .int) [] false (d2 + 1) (.inl (some (.int z.1))) z.2 153 [(0, .ref l0), (1, .int l1), (3, .int l3)] [.int s1, .int s0] m0 := by
  unfold bb_X12_billOf_153 at h
  refine ru_iadd dX12_billOf_153 <| ru_istore_n (i := 2) dX12_billOf_154 rfl (by decide) <| ru_iinc dX12_billOf_155 (by decide) rfl (ab_inc kc_i_1) <| ru_goto (tgt := 100) dX12_billOf_158 (by decide) <| ?_
  exact ru_pick [0, 1, 2, 3] rfl (hr100 _ _ _ _ _ _ h)
theorem tbb_X12_billOf_152 {l : Launch} {g : ab_G} (hl0 : l.stackTraces = false) {d2 : Nat} (hd : 5 ≤ d2 + 1) (r100 : Nat → Int32 → Int32 → Int32 → ab_Mm → Option (Int32 × ab_Mm)) (hr100 : ∀ (l0 : Nat) (l1 : Int32) (l2 : Int32) (l3 : Int32) (m : ab_Mm) (z : (Int32 × ab_Mm)), r100 l0 l1 l2 l3 m = some z → ab_W l g cX12_billOf RX12 4 (some .int) [] false (d2 + 1) (.inl (some (.int z.1))) z.2 100 [(0, .ref l0), (1, .int l1), (2, .int l2), (3, .int l3)] [] m) (l0 : Nat) (l1 : Int32) (l3 : Int32) (s0 : Int32) (m0 : ab_Mm) (z : (Int32 × ab_Mm)) (h : bb_X12_billOf_152 r100 l0 l1 l3 s0 m0 = some z) : ab_W l g cX12_billOf RX12 4 (some .int) [] false (d2 + 1) (.inl (some (.int z.1))) z.2 152 [(0, .ref l0), (1, .int l1), (3, .int l3)] [.int s0] m0 := by
  unfold bb_X12_billOf_152 at h
  refine ru_iconst dX12_billOf_152 kc_i_0 <| ?_
  exact ru_pick [0, 1, 3] rfl (tbb_X12_billOf_153 hl0 hd _ hr100 _ _ _ _ _ _ _ h)
theorem tbb_X12_billOf_100 {l : Launch} {g : ab_G} (hl0 : l.stackTraces = false) {d2 : Nat} (hd : 5 ≤ d2 + 1)   : ∀ (n : Nat) (l0 : Nat) (l1 : Int32) (l2 : Int32) (l3 : Int32) (m0 : ab_Mm) (z : (Int32 × ab_Mm)), bb_X12_billOf_100  n l0 l1 l2 l3 m0 = some z → ab_W l g cX12_billOf RX12 4 (some .int) [] false (d2 + 1) (.inl (some (.int z.1))) z.2 100 [(0, .ref l0), (1, .int l1), (2, .int l2), (3, .int l3)] [] m0 := by
  intro n
  induction n with
  | zero => intro l0 l1 l2 l3 m0 z h; cases h
  | succ n ih =>
    intro l0 l1 l2 l3 m0 z h
    rw [bb_X12_billOf_100] at h
    refine ru_iload_n (i := 3) dX12_billOf_100 rfl rfl <| ru_bipush dX12_billOf_101 kc_b_12 <| ?_
    refine ru_icmp_ge (tgt := 161) dX12_billOf_103 (by decide) (fun hc => ?_) (fun hc => ?_)
    · rw [if_pos hc] at h
      refine ru_iload_n (i := 2) dX12_billOf_161 rfl rfl <| ?_
      cases h
      exact ru_ret (v := some (.int _)) ⟨_, rfl, rfl, dX12_billOf_162⟩
    · rw [if_neg hc] at h
      refine ru_iload_n (i := 2) dX12_billOf_106 rfl rfl <| ru_aload_n (i := 0) dX12_billOf_107 rfl rfl <| ru_iload_n (i := 3) dX12_billOf_108 rfl rfl <| ?_
      obtain ⟨_, hrc, h⟩ := Option.bind_eq_some_iff.mp h
      obtain ⟨q1, hq1, h⟩ := Option.bind_eq_some_iff.mp h
      refine ru_callV (tm_X12_runs hl0 (by omega) hq1) dX12_billOf_109 rfl pm_X12_264 mf_X12_runs (ab_rcv_of hrc rfl) rfl rfl (Nat.le_of_ble_eq_true rfl) ?_
      refine ru_if_eq (tgt := 152) dX12_billOf_112 (by decide) (fun hc => ?_) (fun hc => ?_)
      · rw [if_pos hc] at h
        exact ru_pick [0, 1, 3] rfl (tbb_X12_billOf_152 hl0 hd _ ih _ _ _ _ _ _ h)
      · rw [if_neg hc] at h
        refine ru_aload_n (i := 0) dX12_billOf_115 rfl rfl <| ru_iload_n (i := 3) dX12_billOf_116 rfl rfl <| ru_iconst dX12_billOf_117 kc_i_0 <| ?_
        obtain ⟨_, hrc, h⟩ := Option.bind_eq_some_iff.mp h
        obtain ⟨q2, hq2, h⟩ := Option.bind_eq_some_iff.mp h
        refine ru_callV (tm_X12_its hl0 (by omega) hq2) dX12_billOf_118 rfl pm_X12_242 mf_X12_its (ab_rcv_of hrc rfl) rfl rfl (Nat.le_of_ble_eq_true rfl) ?_
        refine ru_iload_n (i := 1) dX12_billOf_121 rfl rfl <| ?_
        refine ru_icmp_ne (tgt := 152) dX12_billOf_122 (by decide) (fun hc => ?_) (fun hc => ?_)
        · rw [if_neg hc] at h
          exact ru_pick [0, 1, 3] rfl (tbb_X12_billOf_152 hl0 hd _ ih _ _ _ _ _ _ h)
        · rw [if_pos hc] at h
          refine ru_aload_n (i := 0) dX12_billOf_125 rfl rfl <| ru_iload_n (i := 3) dX12_billOf_126 rfl rfl <| ru_iconst dX12_billOf_127 kc_i_3 <| ?_
          obtain ⟨_, hrc, h⟩ := Option.bind_eq_some_iff.mp h
          obtain ⟨q3, hq3, h⟩ := Option.bind_eq_some_iff.mp h
          refine ru_callV (tm_X12_its hl0 (by omega) hq3) dX12_billOf_128 rfl pm_X12_242 mf_X12_its (ab_rcv_of hrc rfl) rfl rfl (Nat.le_of_ble_eq_true rfl) ?_
          refine ru_iconst dX12_billOf_131 kc_i_m1 <| ?_
          refine ru_icmp_eq (tgt := 152) dX12_billOf_132 (by decide) (fun hc => ?_) (fun hc => ?_)
          · rw [if_pos hc] at h
            exact ru_pick [0, 1, 3] rfl (tbb_X12_billOf_152 hl0 hd _ ih _ _ _ _ _ _ h)
          · rw [if_neg hc] at h
            refine ru_aload_n (i := 0) dX12_billOf_135 rfl rfl <| ?_
            refine ru_getR h dX12_billOf_136 lk_X12_7 ?_
            intro v4 h
            refine ru_iconst dX12_billOf_139 kc_i_2 <| ru_aload_n (i := 0) dX12_billOf_140 rfl rfl <| ru_iload_n (i := 3) dX12_billOf_141 rfl rfl <| ru_iconst dX12_billOf_142 kc_i_1 <| ?_
            obtain ⟨_, hrc, h⟩ := Option.bind_eq_some_iff.mp h
            obtain ⟨q5, hq5, h⟩ := Option.bind_eq_some_iff.mp h
            refine ru_callV (tm_X12_its hl0 (by omega) hq5) dX12_billOf_143 rfl pm_X12_242 mf_X12_its (ab_rcv_of hrc rfl) rfl rfl (Nat.le_of_ble_eq_true rfl) ?_
            refine ru_iadd dX12_billOf_146 <| ?_
            refine ru_laload h dX12_billOf_147 ?_
            intro v6 h
            refine ru_l2i dX12_billOf_148 <| ru_goto (tgt := 153) dX12_billOf_149 (by decide) <| ?_
            exact ru_pick [0, 1, 3] rfl (tbb_X12_billOf_153 hl0 hd _ ih _ _ _ _ _ _ _ h)
theorem tbb_X12_billOf_55 {l : Launch} {g : ab_G} (hl0 : l.stackTraces = false) {d2 : Nat} (hd : 5 ≤ d2 + 1)   : ∀ (n : Nat) (l0 : Nat) (l1 : Int32) (l2 : Int32) (l3 : Int32) (m0 : ab_Mm) (z : (Int32 × ab_Mm)), bb_X12_billOf_55  n l0 l1 l2 l3 m0 = some z → ab_W l g cX12_billOf RX12 4 (some .int) [] false (d2 + 1) (.inl (some (.int z.1))) z.2 55 [(0, .ref l0), (1, .int l1), (2, .int l2), (3, .int l3)] [] m0 := by
  intro n
  induction n with
  | zero => intro l0 l1 l2 l3 m0 z h; cases h
  | succ n ih =>
    intro l0 l1 l2 l3 m0 z h
    rw [bb_X12_billOf_55] at h
    refine ru_iload_n (i := 3) dX12_billOf_55 rfl rfl <| ru_aload_n (i := 0) dX12_billOf_56 rfl rfl <| ?_
    refine ru_getR h dX12_billOf_57 lk_X12_13 ?_
    intro v1 h
    refine ru_iconst dX12_billOf_60 kc_i_1 <| ?_
    refine ru_iaload h dX12_billOf_61 ?_
    intro v2 h
    refine ru_icmp_ge (tgt := 98) dX12_billOf_62 (by decide) (fun hc => ?_) (fun hc => ?_)
    · rw [if_pos hc] at h
      refine ru_iconst dX12_billOf_98 kc_i_0 <| ru_istore_n (i := 3) dX12_billOf_99 rfl (by decide) <| ?_
      exact ru_pick [0, 1, 2, 3] rfl (tbb_X12_billOf_100 hl0 hd   _ _ _ _ _ _ _ h)
    · rw [if_neg hc] at h
      refine ru_iload_n (i := 2) dX12_billOf_65 rfl rfl <| ru_aload_n (i := 0) dX12_billOf_66 rfl rfl <| ru_iload_n (i := 1) dX12_billOf_67 rfl rfl <| ru_iload_n (i := 3) dX12_billOf_68 rfl rfl <| ?_
      obtain ⟨_, hrc, h⟩ := Option.bind_eq_some_iff.mp h
      obtain ⟨q3, hq3, h⟩ := Option.bind_eq_some_iff.mp h
      refine ru_callV (tm_X12_regulars hl0 (by omega) hq3) dX12_billOf_69 rfl pm_X12_320 mf_X12_regulars (ab_rcv_of hrc rfl) rfl rfl (Nat.le_of_ble_eq_true rfl) ?_
      refine ru_aload_n (i := 0) dX12_billOf_72 rfl rfl <| ru_iload_n (i := 1) dX12_billOf_73 rfl rfl <| ru_iload_n (i := 3) dX12_billOf_74 rfl rfl <| ?_
      obtain ⟨_, hrc, h⟩ := Option.bind_eq_some_iff.mp h
      obtain ⟨q4, hq4, h⟩ := Option.bind_eq_some_iff.mp h
      refine ru_callV (tm_X12_coveredBy hl0 (by omega) hq4) dX12_billOf_75 rfl pm_X12_326 mf_X12_coveredBy (ab_rcv_of hrc rfl) rfl rfl (Nat.le_of_ble_eq_true rfl) ?_
      refine ru_isub dX12_billOf_78 <| ru_aload_n (i := 0) dX12_billOf_79 rfl rfl <| ?_
      refine ru_getR h dX12_billOf_80 lk_X12_20 ?_
      intro v5 h
      refine ru_iconst dX12_billOf_83 kc_i_3 <| ru_iload_n (i := 3) dX12_billOf_84 rfl rfl <| ru_imul dX12_billOf_85 <| ru_iconst dX12_billOf_86 kc_i_2 <| ru_iadd dX12_billOf_87 <| ?_
      refine ru_iaload h dX12_billOf_88 ?_
      intro v6 h
      refine ru_imul dX12_billOf_89 <| ru_iadd dX12_billOf_90 <| ru_istore_n (i := 2) dX12_billOf_91 rfl (by decide) <| ru_iinc dX12_billOf_92 (by decide) rfl (ab_inc kc_i_1) <| ru_goto (tgt := 55) dX12_billOf_95 (by decide) <| ?_
      exact ru_pick [0, 1, 2, 3] rfl (ih _ _ _ _ _ _ h)
theorem tbb_X12_billOf_45 {l : Launch} {g : ab_G} (hl0 : l.stackTraces = false) {d2 : Nat} (hd : 5 ≤ d2 + 1) (r4 : Nat → Int32 → Int32 → Int32 → ab_Mm → Option (Int32 × ab_Mm)) (hr4 : ∀ (l0 : Nat) (l1 : Int32) (l2 : Int32) (l3 : Int32) (m : ab_Mm) (z : (Int32 × ab_Mm)), r4 l0 l1 l2 l3 m = some z → ab_W l g cX12_billOf RX12 4 (some .int) [] false (d2 + 1) (.inl (some (.int z.1))) z.2 4 [(0, .ref l0), (1, .int l1), (2, .int l2), (3, .int l3)] [] m) (l0 : Nat) (l1 : Int32) (l3 : Int32) (s0 : Int32) (s1 : Int32) (m0 : ab_Mm) (z : (Int32 × ab_Mm)) (h : bb_X12_billOf_45 r4 l0 l1 l3 s0 s1 m0 = some z) : ab_W l g cX12_billOf RX12 4 (some .int) [] false (d2 + 1) (.inl (some (.int z.1))) z.2 45 [(0, .ref l0), (1, .int l1), (3, .int l3)] [.int s1, .int s0] m0 := by
  unfold bb_X12_billOf_45 at h
  refine ru_iadd dX12_billOf_45 <| ru_istore_n (i := 2) dX12_billOf_46 rfl (by decide) <| ru_iinc dX12_billOf_47 (by decide) rfl (ab_inc kc_i_1) <| ru_goto (tgt := 4) dX12_billOf_50 (by decide) <| ?_
  exact ru_pick [0, 1, 2, 3] rfl (hr4 _ _ _ _ _ _ h)
theorem tbb_X12_billOf_44 {l : Launch} {g : ab_G} (hl0 : l.stackTraces = false) {d2 : Nat} (hd : 5 ≤ d2 + 1) (r4 : Nat → Int32 → Int32 → Int32 → ab_Mm → Option (Int32 × ab_Mm)) (hr4 : ∀ (l0 : Nat) (l1 : Int32) (l2 : Int32) (l3 : Int32) (m : ab_Mm) (z : (Int32 × ab_Mm)), r4 l0 l1 l2 l3 m = some z → ab_W l g cX12_billOf RX12 4 (some .int) [] false (d2 + 1) (.inl (some (.int z.1))) z.2 4 [(0, .ref l0), (1, .int l1), (2, .int l2), (3, .int l3)] [] m) (l0 : Nat) (l1 : Int32) (l3 : Int32) (s0 : Int32) (m0 : ab_Mm) (z : (Int32 × ab_Mm)) (h : bb_X12_billOf_44 r4 l0 l1 l3 s0 m0 = some z) : ab_W l g cX12_billOf RX12 4 (some .int) [] false (d2 + 1) (.inl (some (.int z.1))) z.2 44 [(0, .ref l0), (1, .int l1), (3, .int l3)] [.int s0] m0 := by
  unfold bb_X12_billOf_44 at h
  refine ru_iconst dX12_billOf_44 kc_i_0 <| ?_
  exact ru_pick [0, 1, 3] rfl (tbb_X12_billOf_45 hl0 hd _ hr4 _ _ _ _ _ _ _ h)
theorem tbb_X12_billOf_4 {l : Launch} {g : ab_G} (hl0 : l.stackTraces = false) {d2 : Nat} (hd : 5 ≤ d2 + 1)   : ∀ (n : Nat) (l0 : Nat) (l1 : Int32) (l2 : Int32) (l3 : Int32) (m0 : ab_Mm) (z : (Int32 × ab_Mm)), bb_X12_billOf_4  n l0 l1 l2 l3 m0 = some z → ab_W l g cX12_billOf RX12 4 (some .int) [] false (d2 + 1) (.inl (some (.int z.1))) z.2 4 [(0, .ref l0), (1, .int l1), (2, .int l2), (3, .int l3)] [] m0 := by
  intro n
  induction n with
  | zero => intro l0 l1 l2 l3 m0 z h; cases h
  | succ n ih =>
    intro l0 l1 l2 l3 m0 z h
    rw [bb_X12_billOf_4] at h
    refine ru_iload_n (i := 3) dX12_billOf_4 rfl rfl <| ru_aload_n (i := 0) dX12_billOf_5 rfl rfl <| ?_
    refine ru_getR h dX12_billOf_6 lk_X12_13 ?_
    intro v1 h
    refine ru_iconst dX12_billOf_9 kc_i_3 <| ?_
    refine ru_iaload h dX12_billOf_10 ?_
    intro v2 h
    refine ru_icmp_ge (tgt := 53) dX12_billOf_11 (by decide) (fun hc => ?_) (fun hc => ?_)
    · rw [if_pos hc] at h
      refine ru_iconst dX12_billOf_53 kc_i_0 <| ru_istore_n (i := 3) dX12_billOf_54 rfl (by decide) <| ?_
      exact ru_pick [0, 1, 2, 3] rfl (tbb_X12_billOf_55 hl0 hd   _ _ _ _ _ _ _ h)
    · rw [if_neg hc] at h
      refine ru_iload_n (i := 2) dX12_billOf_14 rfl rfl <| ru_aload_n (i := 0) dX12_billOf_15 rfl rfl <| ?_
      refine ru_getR h dX12_billOf_16 lk_X12_26 ?_
      intro v3 h
      refine ru_bipush dX12_billOf_19 kc_b_6 <| ru_iload_n (i := 3) dX12_billOf_21 rfl rfl <| ru_imul dX12_billOf_22 <| ?_
      refine ru_iaload h dX12_billOf_23 ?_
      intro v4 h
      refine ru_iload_n (i := 1) dX12_billOf_24 rfl rfl <| ?_
      refine ru_icmp_ne (tgt := 44) dX12_billOf_25 (by decide) (fun hc => ?_) (fun hc => ?_)
      · rw [if_neg hc] at h
        exact ru_pick [0, 1, 3] rfl (tbb_X12_billOf_44 hl0 hd _ ih _ _ _ _ _ _ h)
      · rw [if_pos hc] at h
        refine ru_aload_n (i := 0) dX12_billOf_28 rfl rfl <| ru_iload_n (i := 3) dX12_billOf_29 rfl rfl <| ?_
        obtain ⟨_, hrc, h⟩ := Option.bind_eq_some_iff.mp h
        obtain ⟨q5, hq5, h⟩ := Option.bind_eq_some_iff.mp h
        refine ru_callV (tm_X12_isActive hl0 (by omega) hq5) dX12_billOf_30 rfl pm_X12_317 mf_X12_isActive (ab_rcv_of hrc rfl) rfl rfl (Nat.le_of_ble_eq_true rfl) ?_
        refine ru_if_eq (tgt := 44) dX12_billOf_33 (by decide) (fun hc => ?_) (fun hc => ?_)
        · rw [if_pos hc] at h
          exact ru_pick [0, 1, 3] rfl (tbb_X12_billOf_44 hl0 hd _ ih _ _ _ _ _ _ h)
        · rw [if_neg hc] at h
          refine ru_aload_n (i := 0) dX12_billOf_36 rfl rfl <| ru_iload_n (i := 3) dX12_billOf_37 rfl rfl <| ?_
          obtain ⟨_, hrc, h⟩ := Option.bind_eq_some_iff.mp h
          obtain ⟨q6, hq6, h⟩ := Option.bind_eq_some_iff.mp h
          refine ru_callV (tm_X12_payment hl0 (by omega) hq6) dX12_billOf_38 rfl pm_X12_323 mf_X12_payment (ab_rcv_of hrc rfl) rfl rfl (Nat.le_of_ble_eq_true rfl) ?_
          refine ru_goto (tgt := 45) dX12_billOf_41 (by decide) <| ?_
          exact ru_pick [0, 1, 3] rfl (tbb_X12_billOf_45 hl0 hd _ ih _ _ _ _ _ _ _ h)
theorem te_X12_billOf {l : Launch} {g : ab_G} (hl0 : l.stackTraces = false) {d2 : Nat} (hd : 5 ≤ d2 + 1)   (l0 : Nat) (l1 : Int32) (m0 : ab_Mm) (z : (Int32 × ab_Mm)) (h : dd_X12_billOf  l0 l1 m0 = some z) : ab_W l g cX12_billOf RX12 4 (some .int) [] false (d2 + 1) (.inl (some (.int z.1))) z.2 0 [(0, .ref l0), (1, .int l1)] [] m0 := by
  unfold dd_X12_billOf at h
  refine ru_iconst dX12_billOf_0 kc_i_0 <| ru_istore_n (i := 2) dX12_billOf_1 rfl (by decide) <| ru_iconst dX12_billOf_2 kc_i_0 <| ru_istore_n (i := 3) dX12_billOf_3 rfl (by decide) <| ?_
  exact ru_pick [0, 1, 2, 3] rfl (tbb_X12_billOf_4 hl0 hd   _ _ _ _ _ _ _ h)
theorem tm_X12_billOf {l : Launch} {g : ab_G} (hl0 : l.stackTraces = false) {d : Nat} (hd : 5 ≤ d) {l0 : Nat} {l1 : Int32} {m : ab_Mm} {z : (Int32 × ab_Mm)} (h : dd_X12_billOf l0 l1 m = some z) : ab_Met l g yX12_billOf cX12_billOf 4 (some .int) [] d [.ref l0, .int l1] m (.inl (some (.int z.1))) z.2 := by
  obtain ⟨d2, rfl⟩ : ∃ d2, d = d2 + 1 := ⟨d - 1, by omega⟩
  exact ab_of hl0 (by decide +kernel) (Nat.le_of_ble_eq_true rfl) (fun q => by cases q) rfl (te_X12_billOf hl0 hd _ _ _ _ h)
theorem tbb_X12_spent_21 {l : Launch} {g : ab_G} (hl0 : l.stackTraces = false) {d2 : Nat} (hd : 4 ≤ d2 + 1)   (s0 : Int64) (m0 : ab_Mm) (z : (Int64 × ab_Mm)) (h : bb_X12_spent_21  s0 m0 = some z) : ab_W l g cX12_spent RX12 2 (some .long) [] false (d2 + 1) (.inl (some (.long z.1))) z.2 21 [] [.long s0] m0 := by
  unfold bb_X12_spent_21 at h
  cases h
  exact ru_ret (v := some (.long _)) ⟨rfl, dX12_spent_21⟩
theorem te_X12_spent {l : Launch} {g : ab_G} (hl0 : l.stackTraces = false) {d2 : Nat} (hd : 4 ≤ d2 + 1)   (l0 : Nat) (l1 : Int32) (m0 : ab_Mm) (z : (Int64 × ab_Mm)) (h : dd_X12_spent  l0 l1 m0 = some z) : ab_W l g cX12_spent RX12 2 (some .long) [] false (d2 + 1) (.inl (some (.long z.1))) z.2 0 [(0, .ref l0), (1, .int l1)] [] m0 := by
  unfold dd_X12_spent at h
  refine ru_aload_n (i := 0) dX12_spent_0 rfl rfl <| ru_iload_n (i := 1) dX12_spent_1 rfl rfl <| ?_
  obtain ⟨_, hrc, h⟩ := Option.bind_eq_some_iff.mp h
  obtain ⟨q1, hq1, h⟩ := Option.bind_eq_some_iff.mp h
  refine ru_callV (tm_X12_noTenant hl0 (by omega) hq1) dX12_spent_2 rfl pm_X12_329 mf_X12_noTenant (ab_rcv_of hrc rfl) rfl rfl (Nat.le_of_ble_eq_true rfl) ?_
  refine ru_if_eq (tgt := 12) dX12_spent_5 (by decide) (fun hc => ?_) (fun hc => ?_)
  · rw [if_pos hc] at h
    refine ru_aload_n (i := 0) dX12_spent_12 rfl rfl <| ?_
    refine ru_getR h dX12_spent_13 lk_X12_7 ?_
    intro v2 h
    refine ru_bipush dX12_spent_16 kc_b_8 <| ru_iload_n (i := 1) dX12_spent_18 rfl rfl <| ru_iadd dX12_spent_19 <| ?_
    refine ru_laload h dX12_spent_20 ?_
    intro v3 h
    exact ru_pick [] rfl (tbb_X12_spent_21 hl0 hd   _ _ _ h)
  · rw [if_neg hc] at h
    refine ru_lconst dX12_spent_8 (v := 0) rfl <| ru_goto (tgt := 21) dX12_spent_9 (by decide) <| ?_
    exact ru_pick [] rfl (tbb_X12_spent_21 hl0 hd   _ _ _ h)
theorem tm_X12_spent {l : Launch} {g : ab_G} (hl0 : l.stackTraces = false) {d : Nat} (hd : 4 ≤ d) {l0 : Nat} {l1 : Int32} {m : ab_Mm} {z : (Int64 × ab_Mm)} (h : dd_X12_spent l0 l1 m = some z) : ab_Met l g yX12_spent cX12_spent 2 (some .long) [] d [.ref l0, .int l1] m (.inl (some (.long z.1))) z.2 := by
  obtain ⟨d2, rfl⟩ : ∃ d2, d = d2 + 1 := ⟨d - 1, by omega⟩
  exact ab_of hl0 (by decide +kernel) (Nat.le_of_ble_eq_true rfl) (fun q => by cases q) rfl (te_X12_spent hl0 hd _ _ _ _ h)
theorem tbb_X12_hourlyBill_17 {l : Launch} {g : ab_G} (hl0 : l.stackTraces = false) {d2 : Nat} (hd : 6 ≤ d2 + 1)   (s0 : Int32) (m0 : ab_Mm) (z : (Int32 × ab_Mm)) (h : bb_X12_hourlyBill_17  s0 m0 = some z) : ab_W l g cX12_hourlyBill RX12 2 (some .int) [] false (d2 + 1) (.inl (some (.int z.1))) z.2 17 [] [.int s0] m0 := by
  unfold bb_X12_hourlyBill_17 at h
  cases h
  exact ru_ret (v := some (.int _)) ⟨_, rfl, rfl, dX12_hourlyBill_17⟩
theorem te_X12_hourlyBill {l : Launch} {g : ab_G} (hl0 : l.stackTraces = false) {d2 : Nat} (hd : 6 ≤ d2 + 1)   (l0 : Nat) (l1 : Int32) (m0 : ab_Mm) (z : (Int32 × ab_Mm)) (h : dd_X12_hourlyBill  l0 l1 m0 = some z) : ab_W l g cX12_hourlyBill RX12 2 (some .int) [] false (d2 + 1) (.inl (some (.int z.1))) z.2 0 [(0, .ref l0), (1, .int l1)] [] m0 := by
  unfold dd_X12_hourlyBill at h
  refine ru_aload_n (i := 0) dX12_hourlyBill_0 rfl rfl <| ru_iload_n (i := 1) dX12_hourlyBill_1 rfl rfl <| ?_
  obtain ⟨_, hrc, h⟩ := Option.bind_eq_some_iff.mp h
  obtain ⟨q1, hq1, h⟩ := Option.bind_eq_some_iff.mp h
  refine ru_callV (tm_X12_noTenant hl0 (by omega) hq1) dX12_hourlyBill_2 rfl pm_X12_329 mf_X12_noTenant (ab_rcv_of hrc rfl) rfl rfl (Nat.le_of_ble_eq_true rfl) ?_
  refine ru_if_eq (tgt := 12) dX12_hourlyBill_5 (by decide) (fun hc => ?_) (fun hc => ?_)
  · rw [if_pos hc] at h
    refine ru_aload_n (i := 0) dX12_hourlyBill_12 rfl rfl <| ru_iload_n (i := 1) dX12_hourlyBill_13 rfl rfl <| ?_
    obtain ⟨_, hrc, h⟩ := Option.bind_eq_some_iff.mp h
    obtain ⟨q2, hq2, h⟩ := Option.bind_eq_some_iff.mp h
    refine ru_callV (tm_X12_billOf hl0 (by omega) hq2) dX12_hourlyBill_14 rfl pm_X12_332 mf_X12_billOf (ab_rcv_of hrc rfl) rfl rfl (Nat.le_of_ble_eq_true rfl) ?_
    exact ru_pick [] rfl (tbb_X12_hourlyBill_17 hl0 hd   _ _ _ h)
  · rw [if_neg hc] at h
    refine ru_iconst dX12_hourlyBill_8 kc_i_0 <| ru_goto (tgt := 17) dX12_hourlyBill_9 (by decide) <| ?_
    exact ru_pick [] rfl (tbb_X12_hourlyBill_17 hl0 hd   _ _ _ h)
theorem tm_X12_hourlyBill {l : Launch} {g : ab_G} (hl0 : l.stackTraces = false) {d : Nat} (hd : 6 ≤ d) {l0 : Nat} {l1 : Int32} {m : ab_Mm} {z : (Int32 × ab_Mm)} (h : dd_X12_hourlyBill l0 l1 m = some z) : ab_Met l g yX12_hourlyBill cX12_hourlyBill 2 (some .int) [] d [.ref l0, .int l1] m (.inl (some (.int z.1))) z.2 := by
  obtain ⟨d2, rfl⟩ : ∃ d2, d = d2 + 1 := ⟨d - 1, by omega⟩
  exact ab_of hl0 (by decide +kernel) (Nat.le_of_ble_eq_true rfl) (fun q => by cases q) rfl (te_X12_hourlyBill hl0 hd _ _ _ _ h)
theorem tbb_X12_covered_26 {l : Launch} {g : ab_G} (hl0 : l.stackTraces = false) {d2 : Nat} (hd : 5 ≤ d2 + 1)   (s0 : Int32) (m0 : ab_Mm) (z : (Int32 × ab_Mm)) (h : bb_X12_covered_26  s0 m0 = some z) : ab_W l g cX12_covered RX12 3 (some .int) [] false (d2 + 1) (.inl (some (.int z.1))) z.2 26 [] [.int s0] m0 := by
  unfold bb_X12_covered_26 at h
  cases h
  exact ru_ret (v := some (.int _)) ⟨_, rfl, rfl, dX12_covered_26⟩
theorem tbb_X12_covered_16 {l : Launch} {g : ab_G} (hl0 : l.stackTraces = false) {d2 : Nat} (hd : 5 ≤ d2 + 1)    (m0 : ab_Mm) (z : (Int32 × ab_Mm)) (h : bb_X12_covered_16   m0 = some z) : ab_W l g cX12_covered RX12 3 (some .int) [] false (d2 + 1) (.inl (some (.int z.1))) z.2 16 [] [] m0 := by
  unfold bb_X12_covered_16 at h
  refine ru_iconst dX12_covered_16 kc_i_0 <| ru_goto (tgt := 26) dX12_covered_17 (by decide) <| ?_
  exact ru_pick [] rfl (tbb_X12_covered_26 hl0 hd   _ _ _ h)
theorem te_X12_covered {l : Launch} {g : ab_G} (hl0 : l.stackTraces = false) {d2 : Nat} (hd : 5 ≤ d2 + 1)   (l0 : Nat) (l1 : Int32) (l2 : Int32) (m0 : ab_Mm) (z : (Int32 × ab_Mm)) (h : dd_X12_covered  l0 l1 l2 m0 = some z) : ab_W l g cX12_covered RX12 3 (some .int) [] false (d2 + 1) (.inl (some (.int z.1))) z.2 0 [(0, .ref l0), (1, .int l1), (2, .int l2)] [] m0 := by
  unfold dd_X12_covered at h
  refine ru_aload_n (i := 0) dX12_covered_0 rfl rfl <| ru_iload_n (i := 1) dX12_covered_1 rfl rfl <| ?_
  obtain ⟨_, hrc, h⟩ := Option.bind_eq_some_iff.mp h
  obtain ⟨q1, hq1, h⟩ := Option.bind_eq_some_iff.mp h
  refine ru_callV (tm_X12_noTenant hl0 (by omega) hq1) dX12_covered_2 rfl pm_X12_329 mf_X12_noTenant (ab_rcv_of hrc rfl) rfl rfl (Nat.le_of_ble_eq_true rfl) ?_
  refine ru_if_ne (tgt := 16) dX12_covered_5 (by decide) (fun hc => ?_) (fun hc => ?_)
  · rw [if_neg hc] at h
    exact ru_pick [] rfl (tbb_X12_covered_16 hl0 hd    _ _ h)
  · rw [if_pos hc] at h
    refine ru_aload_n (i := 0) dX12_covered_8 rfl rfl <| ru_iload_n (i := 2) dX12_covered_9 rfl rfl <| ?_
    obtain ⟨_, hrc, h⟩ := Option.bind_eq_some_iff.mp h
    obtain ⟨q2, hq2, h⟩ := Option.bind_eq_some_iff.mp h
    refine ru_callV (tm_X12_noType hl0 (by omega) hq2) dX12_covered_10 rfl pm_X12_295 mf_X12_noType (ab_rcv_of hrc rfl) rfl rfl (Nat.le_of_ble_eq_true rfl) ?_
    refine ru_if_eq (tgt := 20) dX12_covered_13 (by decide) (fun hc => ?_) (fun hc => ?_)
    · rw [if_pos hc] at h
      refine ru_aload_n (i := 0) dX12_covered_20 rfl rfl <| ru_iload_n (i := 1) dX12_covered_21 rfl rfl <| ru_iload_n (i := 2) dX12_covered_22 rfl rfl <| ?_
      obtain ⟨_, hrc, h⟩ := Option.bind_eq_some_iff.mp h
      obtain ⟨q3, hq3, h⟩ := Option.bind_eq_some_iff.mp h
      refine ru_callV (tm_X12_coveredBy hl0 (by omega) hq3) dX12_covered_23 rfl pm_X12_326 mf_X12_coveredBy (ab_rcv_of hrc rfl) rfl rfl (Nat.le_of_ble_eq_true rfl) ?_
      exact ru_pick [] rfl (tbb_X12_covered_26 hl0 hd   _ _ _ h)
    · rw [if_neg hc] at h
      exact ru_pick [] rfl (tbb_X12_covered_16 hl0 hd    _ _ h)
theorem tm_X12_covered {l : Launch} {g : ab_G} (hl0 : l.stackTraces = false) {d : Nat} (hd : 5 ≤ d) {l0 : Nat} {l1 : Int32} {l2 : Int32} {m : ab_Mm} {z : (Int32 × ab_Mm)} (h : dd_X12_covered l0 l1 l2 m = some z) : ab_Met l g yX12_covered cX12_covered 3 (some .int) [] d [.ref l0, .int l1, .int l2] m (.inl (some (.int z.1))) z.2 := by
  obtain ⟨d2, rfl⟩ : ∃ d2, d = d2 + 1 := ⟨d - 1, by omega⟩
  exact ab_of hl0 (by decide +kernel) (Nat.le_of_ble_eq_true rfl) (fun q => by cases q) rfl (te_X12_covered hl0 hd _ _ _ _ _ h)
theorem tbb_X12_isOver_29 {l : Launch} {g : ab_G} (hl0 : l.stackTraces = false) {d2 : Nat} (hd : 1 ≤ d2 + 1)   (s0 : Int32) (m0 : ab_Mm) (z : (Int32 × ab_Mm)) (h : bb_X12_isOver_29  s0 m0 = some z) : ab_W l g cX12_isOver RX12 2 (some .boolean) [] false (d2 + 1) (.inl (some (.int z.1))) z.2 29 [] [.int s0] m0 := by
  unfold bb_X12_isOver_29 at h
  rcases ab_iff h with ⟨hc, h⟩ | ⟨hc, h⟩
  · cases h
  cases h
  exact ru_ret (v := some (.int _)) ⟨_, rfl, congrArg Value.int (Classical.not_not.mp hc), dX12_isOver_29⟩
theorem te_X12_isOver {l : Launch} {g : ab_G} (hl0 : l.stackTraces = false) {d2 : Nat} (hd : 1 ≤ d2 + 1)   (l0 : Nat) (l1 : Int32) (m0 : ab_Mm) (z : (Int32 × ab_Mm)) (h : dd_X12_isOver  l0 l1 m0 = some z) : ab_W l g cX12_isOver RX12 2 (some .boolean) [] false (d2 + 1) (.inl (some (.int z.1))) z.2 0 [(0, .ref l0), (1, .int l1)] [] m0 := by
  unfold dd_X12_isOver at h
  refine ru_aload_n (i := 0) dX12_isOver_0 rfl rfl <| ?_
  refine ru_getR h dX12_isOver_1 lk_X12_7 ?_
  intro v1 h
  refine ru_bipush dX12_isOver_4 kc_b_8 <| ru_iload_n (i := 1) dX12_isOver_6 rfl rfl <| ru_iadd dX12_isOver_7 <| ?_
  refine ru_laload h dX12_isOver_8 ?_
  intro v2 h
  refine ru_ldc2_w dX12_isOver_9 pk_X12_335 <| ru_aload_n (i := 0) dX12_isOver_12 rfl rfl <| ?_
  refine ru_getR h dX12_isOver_13 lk_X12_23 ?_
  intro v3 h
  refine ru_iload_n (i := 1) dX12_isOver_16 rfl rfl <| ?_
  refine ru_iaload h dX12_isOver_17 ?_
  intro v4 h
  refine ru_i2l dX12_isOver_18 <| ru_lmul dX12_isOver_19 <| ru_lcmp dX12_isOver_20 <| ?_
  refine ru_if_le (tgt := 28) dX12_isOver_21 (by decide) (fun hc => ?_) (fun hc => ?_)
  · rw [if_pos hc] at h
    refine ru_iconst dX12_isOver_28 kc_i_0 <| ?_
    exact ru_pick [] rfl (tbb_X12_isOver_29 hl0 hd   _ _ _ h)
  · rw [if_neg hc] at h
    refine ru_iconst dX12_isOver_24 kc_i_1 <| ru_goto (tgt := 29) dX12_isOver_25 (by decide) <| ?_
    exact ru_pick [] rfl (tbb_X12_isOver_29 hl0 hd   _ _ _ h)
theorem tm_X12_isOver {l : Launch} {g : ab_G} (hl0 : l.stackTraces = false) {d : Nat} (hd : 1 ≤ d) {l0 : Nat} {l1 : Int32} {m : ab_Mm} {z : (Int32 × ab_Mm)} (h : dd_X12_isOver l0 l1 m = some z) : ab_Met l g yX12_isOver cX12_isOver 2 (some .boolean) [] d [.ref l0, .int l1] m (.inl (some (.int z.1))) z.2 := by
  obtain ⟨d2, rfl⟩ : ∃ d2, d = d2 + 1 := ⟨d - 1, by omega⟩
  exact ab_of hl0 (by decide +kernel) (Nat.le_of_ble_eq_true rfl) (fun q => by cases q) rfl (te_X12_isOver hl0 hd _ _ _ _ h)
theorem tbb_X12_isOverBudget_21 {l : Launch} {g : ab_G} (hl0 : l.stackTraces = false) {d2 : Nat} (hd : 4 ≤ d2 + 1)   (s0 : Int32) (m0 : ab_Mm) (z : (Int32 × ab_Mm)) (h : bb_X12_isOverBudget_21  s0 m0 = some z) : ab_W l g cX12_isOverBudget RX12 2 (some .boolean) [] false (d2 + 1) (.inl (some (.int z.1))) z.2 21 [] [.int s0] m0 := by
  unfold bb_X12_isOverBudget_21 at h
  rcases ab_iff h with ⟨hc, h⟩ | ⟨hc, h⟩
  · cases h
  cases h
  exact ru_ret (v := some (.int _)) ⟨_, rfl, congrArg Value.int (Classical.not_not.mp hc), dX12_isOverBudget_21⟩
theorem tbb_X12_isOverBudget_20 {l : Launch} {g : ab_G} (hl0 : l.stackTraces = false) {d2 : Nat} (hd : 4 ≤ d2 + 1)    (m0 : ab_Mm) (z : (Int32 × ab_Mm)) (h : bb_X12_isOverBudget_20   m0 = some z) : ab_W l g cX12_isOverBudget RX12 2 (some .boolean) [] false (d2 + 1) (.inl (some (.int z.1))) z.2 20 [] [] m0 := by
  unfold bb_X12_isOverBudget_20 at h
  refine ru_iconst dX12_isOverBudget_20 kc_i_0 <| ?_
  exact ru_pick [] rfl (tbb_X12_isOverBudget_21 hl0 hd   _ _ _ h)
theorem te_X12_isOverBudget {l : Launch} {g : ab_G} (hl0 : l.stackTraces = false) {d2 : Nat} (hd : 4 ≤ d2 + 1)   (l0 : Nat) (l1 : Int32) (m0 : ab_Mm) (z : (Int32 × ab_Mm)) (h : dd_X12_isOverBudget  l0 l1 m0 = some z) : ab_W l g cX12_isOverBudget RX12 2 (some .boolean) [] false (d2 + 1) (.inl (some (.int z.1))) z.2 0 [(0, .ref l0), (1, .int l1)] [] m0 := by
  unfold dd_X12_isOverBudget at h
  refine ru_aload_n (i := 0) dX12_isOverBudget_0 rfl rfl <| ru_iload_n (i := 1) dX12_isOverBudget_1 rfl rfl <| ?_
  obtain ⟨_, hrc, h⟩ := Option.bind_eq_some_iff.mp h
  obtain ⟨q1, hq1, h⟩ := Option.bind_eq_some_iff.mp h
  refine ru_callV (tm_X12_noTenant hl0 (by omega) hq1) dX12_isOverBudget_2 rfl pm_X12_329 mf_X12_noTenant (ab_rcv_of hrc rfl) rfl rfl (Nat.le_of_ble_eq_true rfl) ?_
  refine ru_if_ne (tgt := 20) dX12_isOverBudget_5 (by decide) (fun hc => ?_) (fun hc => ?_)
  · rw [if_neg hc] at h
    exact ru_pick [] rfl (tbb_X12_isOverBudget_20 hl0 hd    _ _ h)
  · rw [if_pos hc] at h
    refine ru_aload_n (i := 0) dX12_isOverBudget_8 rfl rfl <| ru_iload_n (i := 1) dX12_isOverBudget_9 rfl rfl <| ?_
    obtain ⟨_, hrc, h⟩ := Option.bind_eq_some_iff.mp h
    obtain ⟨q2, hq2, h⟩ := Option.bind_eq_some_iff.mp h
    refine ru_callV (tm_X12_isOver hl0 (by omega) hq2) dX12_isOverBudget_10 rfl pm_X12_337 mf_X12_isOver (ab_rcv_of hrc rfl) rfl rfl (Nat.le_of_ble_eq_true rfl) ?_
    refine ru_if_eq (tgt := 20) dX12_isOverBudget_13 (by decide) (fun hc => ?_) (fun hc => ?_)
    · rw [if_pos hc] at h
      exact ru_pick [] rfl (tbb_X12_isOverBudget_20 hl0 hd    _ _ h)
    · rw [if_neg hc] at h
      refine ru_iconst dX12_isOverBudget_16 kc_i_1 <| ru_goto (tgt := 21) dX12_isOverBudget_17 (by decide) <| ?_
      exact ru_pick [] rfl (tbb_X12_isOverBudget_21 hl0 hd   _ _ _ h)
theorem tm_X12_isOverBudget {l : Launch} {g : ab_G} (hl0 : l.stackTraces = false) {d : Nat} (hd : 4 ≤ d) {l0 : Nat} {l1 : Int32} {m : ab_Mm} {z : (Int32 × ab_Mm)} (h : dd_X12_isOverBudget l0 l1 m = some z) : ab_Met l g yX12_isOverBudget cX12_isOverBudget 2 (some .boolean) [] d [.ref l0, .int l1] m (.inl (some (.int z.1))) z.2 := by
  obtain ⟨d2, rfl⟩ : ∃ d2, d = d2 + 1 := ⟨d - 1, by omega⟩
  exact ab_of hl0 (by decide +kernel) (Nat.le_of_ble_eq_true rfl) (fun q => by cases q) rfl (te_X12_isOverBudget hl0 hd _ _ _ _ h)
theorem tbb_X12_pays_108 {l : Launch} {g : ab_G} (hl0 : l.stackTraces = false) {d2 : Nat} (hd : 4 ≤ d2 + 1)   (s0 : Int32) (m0 : ab_Mm) (z : (Int32 × ab_Mm)) (h : bb_X12_pays_108  s0 m0 = some z) : ab_W l g cX12_pays RX12 5 (some .boolean) [] false (d2 + 1) (.inl (some (.int z.1))) z.2 108 [] [.int s0] m0 := by
  unfold bb_X12_pays_108 at h
  rcases ab_iff h with ⟨hc, h⟩ | ⟨hc, h⟩
  · cases h
  cases h
  exact ru_ret (v := some (.int _)) ⟨_, rfl, congrArg Value.int (Classical.not_not.mp hc), dX12_pays_108⟩
theorem tbb_X12_pays_107 {l : Launch} {g : ab_G} (hl0 : l.stackTraces = false) {d2 : Nat} (hd : 4 ≤ d2 + 1)    (m0 : ab_Mm) (z : (Int32 × ab_Mm)) (h : bb_X12_pays_107   m0 = some z) : ab_W l g cX12_pays RX12 5 (some .boolean) [] false (d2 + 1) (.inl (some (.int z.1))) z.2 107 [] [] m0 := by
  unfold bb_X12_pays_107 at h
  refine ru_iconst dX12_pays_107 kc_i_0 <| ?_
  exact ru_pick [] rfl (tbb_X12_pays_108 hl0 hd   _ _ _ h)
theorem tbb_X12_pays_65 {l : Launch} {g : ab_G} (hl0 : l.stackTraces = false) {d2 : Nat} (hd : 4 ≤ d2 + 1)   (l0 : Nat) (l1 : Int32) (l2 : Int32) (s0 : Int32) (m0 : ab_Mm) (z : (Int32 × ab_Mm)) (h : bb_X12_pays_65  l0 l1 l2 s0 m0 = some z) : ab_W l g cX12_pays RX12 5 (some .boolean) [] false (d2 + 1) (.inl (some (.int z.1))) z.2 65 [(0, .ref l0), (1, .int l1), (2, .int l2)] [.int s0] m0 := by
  unfold bb_X12_pays_65 at h
  refine ru_istore dX12_pays_65 (by decide) <| ru_aload_n (i := 0) dX12_pays_67 rfl rfl <| ru_iload_n (i := 1) dX12_pays_68 rfl rfl <| ?_
  obtain ⟨_, hrc, h⟩ := Option.bind_eq_some_iff.mp h
  obtain ⟨q1, hq1, h⟩ := Option.bind_eq_some_iff.mp h
  refine ru_callV (tm_X12_isActive hl0 (by omega) hq1) dX12_pays_69 rfl pm_X12_317 mf_X12_isActive (ab_rcv_of hrc rfl) rfl rfl (Nat.le_of_ble_eq_true rfl) ?_
  refine ru_if_eq (tgt := 107) dX12_pays_72 (by decide) (fun hc => ?_) (fun hc => ?_)
  · rw [if_pos hc] at h
    exact ru_pick [] rfl (tbb_X12_pays_107 hl0 hd    _ _ h)
  · rw [if_neg hc] at h
    refine ru_aload_n (i := 0) dX12_pays_75 rfl rfl <| ru_iload_n (i := 1) dX12_pays_76 rfl rfl <| ?_
    obtain ⟨_, hrc, h⟩ := Option.bind_eq_some_iff.mp h
    obtain ⟨q2, hq2, h⟩ := Option.bind_eq_some_iff.mp h
    refine ru_callV (tm_X12_payment hl0 (by omega) hq2) dX12_pays_77 rfl pm_X12_323 mf_X12_payment (ab_rcv_of hrc rfl) rfl rfl (Nat.le_of_ble_eq_true rfl) ?_
    refine ru_iload dX12_pays_80 rfl <| ru_aload_n (i := 0) dX12_pays_82 rfl rfl <| ?_
    refine ru_getR h dX12_pays_83 lk_X12_20 ?_
    intro v3 h
    refine ru_iconst dX12_pays_86 kc_i_3 <| ru_aload_n (i := 0) dX12_pays_87 rfl rfl <| ?_
    refine ru_getR h dX12_pays_88 lk_X12_26 ?_
    intro v4 h
    refine ru_iload_n (i := 2) dX12_pays_91 rfl rfl <| ru_iconst dX12_pays_92 kc_i_1 <| ru_iadd dX12_pays_93 <| ?_
    refine ru_iaload h dX12_pays_94 ?_
    intro v5 h
    refine ru_imul dX12_pays_95 <| ru_iconst dX12_pays_96 kc_i_2 <| ru_iadd dX12_pays_97 <| ?_
    refine ru_iaload h dX12_pays_98 ?_
    intro v6 h
    refine ru_imul dX12_pays_99 <| ?_
    refine ru_icmp_ge (tgt := 107) dX12_pays_100 (by decide) (fun hc => ?_) (fun hc => ?_)
    · rw [if_pos hc] at h
      exact ru_pick [] rfl (tbb_X12_pays_107 hl0 hd    _ _ h)
    · rw [if_neg hc] at h
      refine ru_iconst dX12_pays_103 kc_i_1 <| ru_goto (tgt := 108) dX12_pays_104 (by decide) <| ?_
      exact ru_pick [] rfl (tbb_X12_pays_108 hl0 hd   _ _ _ h)
theorem te_X12_pays {l : Launch} {g : ab_G} (hl0 : l.stackTraces = false) {d2 : Nat} (hd : 4 ≤ d2 + 1)   (l0 : Nat) (l1 : Int32) (m0 : ab_Mm) (z : (Int32 × ab_Mm)) (h : dd_X12_pays  l0 l1 m0 = some z) : ab_W l g cX12_pays RX12 5 (some .boolean) [] false (d2 + 1) (.inl (some (.int z.1))) z.2 0 [(0, .ref l0), (1, .int l1)] [] m0 := by
  unfold dd_X12_pays at h
  refine ru_aload_n (i := 0) dX12_pays_0 rfl rfl <| ru_iload_n (i := 1) dX12_pays_1 rfl rfl <| ru_i2l dX12_pays_2 <| ru_aload_n (i := 0) dX12_pays_3 rfl rfl <| ?_
  refine ru_getR h dX12_pays_4 lk_X12_13 ?_
  intro v1 h
  refine ru_iconst dX12_pays_7 kc_i_3 <| ?_
  refine ru_iaload h dX12_pays_8 ?_
  intro v2 h
  obtain ⟨_, hrc, h⟩ := Option.bind_eq_some_iff.mp h
  obtain ⟨q3, hq3, h⟩ := Option.bind_eq_some_iff.mp h
  refine ru_callV (tm_X12_no hl0 (by omega) hq3) dX12_pays_9 rfl pm_X12_285 mf_X12_no (ab_rcv_of hrc rfl) rfl rfl (Nat.le_of_ble_eq_true rfl) ?_
  refine ru_if_eq (tgt := 17) dX12_pays_12 (by decide) (fun hc => ?_) (fun hc => ?_)
  · rw [if_pos hc] at h
    refine ru_bipush dX12_pays_17 kc_b_6 <| ru_iload_n (i := 1) dX12_pays_19 rfl rfl <| ru_imul dX12_pays_20 <| ru_istore_n (i := 2) dX12_pays_21 rfl (by decide) <| ru_aload_n (i := 0) dX12_pays_22 rfl rfl <| ru_aload_n (i := 0) dX12_pays_23 rfl rfl <| ?_
    refine ru_getR h dX12_pays_24 lk_X12_26 ?_
    intro v4 h
    refine ru_iload_n (i := 2) dX12_pays_27 rfl rfl <| ?_
    refine ru_iaload h dX12_pays_28 ?_
    intro v5 h
    refine ru_aload_n (i := 0) dX12_pays_29 rfl rfl <| ?_
    refine ru_getR h dX12_pays_30 lk_X12_26 ?_
    intro v6 h
    refine ru_iload_n (i := 2) dX12_pays_33 rfl rfl <| ru_iconst dX12_pays_34 kc_i_1 <| ru_iadd dX12_pays_35 <| ?_
    refine ru_iaload h dX12_pays_36 ?_
    intro v7 h
    obtain ⟨_, hrc, h⟩ := Option.bind_eq_some_iff.mp h
    obtain ⟨q8, hq8, h⟩ := Option.bind_eq_some_iff.mp h
    refine ru_callV (tm_X12_regulars hl0 (by omega) hq8) dX12_pays_37 rfl pm_X12_320 mf_X12_regulars (ab_rcv_of hrc rfl) rfl rfl (Nat.le_of_ble_eq_true rfl) ?_
    refine ru_istore_n (i := 3) dX12_pays_40 rfl (by decide) <| ru_iload_n (i := 3) dX12_pays_41 rfl rfl <| ru_aload_n (i := 0) dX12_pays_42 rfl rfl <| ?_
    refine ru_getR h dX12_pays_43 lk_X12_26 ?_
    intro v9 h
    refine ru_iload_n (i := 2) dX12_pays_46 rfl rfl <| ru_iconst dX12_pays_47 kc_i_2 <| ru_iadd dX12_pays_48 <| ?_
    refine ru_iaload h dX12_pays_49 ?_
    intro v10 h
    refine ru_icmp_ge (tgt := 57) dX12_pays_50 (by decide) (fun hc => ?_) (fun hc => ?_)
    · rw [if_pos hc] at h
      refine ru_aload_n (i := 0) dX12_pays_57 rfl rfl <| ?_
      refine ru_getR h dX12_pays_58 lk_X12_26 ?_
      intro v11 h
      refine ru_iload_n (i := 2) dX12_pays_61 rfl rfl <| ru_iconst dX12_pays_62 kc_i_2 <| ru_iadd dX12_pays_63 <| ?_
      refine ru_iaload h dX12_pays_64 ?_
      intro v12 h
      exact ru_pick [0, 1, 2] rfl (tbb_X12_pays_65 hl0 hd   _ _ _ _ _ _ h)
    · rw [if_neg hc] at h
      refine ru_iload_n (i := 3) dX12_pays_53 rfl rfl <| ru_goto (tgt := 65) dX12_pays_54 (by decide) <| ?_
      exact ru_pick [0, 1, 2] rfl (tbb_X12_pays_65 hl0 hd   _ _ _ _ _ _ h)
  · rw [if_neg hc] at h
    refine ru_iconst dX12_pays_15 kc_i_0 <| ?_
    cases h
    exact ru_ret (v := some (.int _)) ⟨_, rfl, ab_nz0, dX12_pays_16⟩
theorem tm_X12_pays {l : Launch} {g : ab_G} (hl0 : l.stackTraces = false) {d : Nat} (hd : 4 ≤ d) {l0 : Nat} {l1 : Int32} {m : ab_Mm} {z : (Int32 × ab_Mm)} (h : dd_X12_pays l0 l1 m = some z) : ab_Met l g yX12_pays cX12_pays 5 (some .boolean) [] d [.ref l0, .int l1] m (.inl (some (.int z.1))) z.2 := by
  obtain ⟨d2, rfl⟩ : ∃ d2, d = d2 + 1 := ⟨d - 1, by omega⟩
  exact ab_of hl0 (by decide +kernel) (Nat.le_of_ble_eq_true rfl) (fun q => by cases q) rfl (te_X12_pays hl0 hd _ _ _ _ h)
theorem tbb_X12_addsHost_164 {l : Launch} {g : ab_G} (hl0 : l.stackTraces = false) {d2 : Nat} (hd : 1 ≤ d2 + 1) (r29 : Nat → Int32 → Int32 → Int32 → ab_Mm → Option (Unit × ab_Mm)) (hr29 : ∀ (l0 : Nat) (l1 : Int32) (l2 : Int32) (l3 : Int32) (m : ab_Mm) (z : (Unit × ab_Mm)), r29 l0 l1 l2 l3 m = some z → ab_W l g cX12_addsHost RX12 7 none [] false (d2 + 1) (.inl none) z.2 29 [(0, .ref l0), (1, .int l1), (2, .int l2), (3, .int l3)] [] m) (l0 : Nat) (l1 : Int32) (l2 : Int32) (l3 : Int32) (m0 : ab_Mm) (z : (Unit × ab_Mm)) (h : bb_X12_addsHost_164 r29 l0 l1 l2 l3 m0 = some z) : ab_W l g cX12_addsHost RX12 7 none [] false (d2 + 1) (.inl none) z.2 164 [(0, .ref l0), (1, .int l1), (2, .int l2), (3, .int l3)] [] m0 := by
  unfold bb_X12_addsHost_164 at h
  refine ru_iinc dX12_addsHost_164 (by decide) rfl (ab_inc kc_i_1) <| ru_goto (tgt := 29) dX12_addsHost_167 (by decide) <| ?_
  exact ru_pick [0, 1, 2, 3] rfl (hr29 _ _ _ _ _ _ h)
theorem tbb_X12_addsHost_159 {l : Launch} {g : ab_G} (hl0 : l.stackTraces = false) {d2 : Nat} (hd : 1 ≤ d2 + 1) (r29 : Nat → Int32 → Int32 → Int32 → ab_Mm → Option (Unit × ab_Mm)) (r90 : Nat → Int32 → Int32 → Int32 → Int32 → Int32 → ab_Mm → Option (Unit × ab_Mm)) (hr29 : ∀ (l0 : Nat) (l1 : Int32) (l2 : Int32) (l3 : Int32) (m : ab_Mm) (z : (Unit × ab_Mm)), r29 l0 l1 l2 l3 m = some z → ab_W l g cX12_addsHost RX12 7 none [] false (d2 + 1) (.inl none) z.2 29 [(0, .ref l0), (1, .int l1), (2, .int l2), (3, .int l3)] [] m) (hr90 : ∀ (l0 : Nat) (l1 : Int32) (l2 : Int32) (l3 : Int32) (l4 : Int32) (l5 : Int32) (m : ab_Mm) (z : (Unit × ab_Mm)), r90 l0 l1 l2 l3 l4 l5 m = some z → ab_W l g cX12_addsHost RX12 7 none [] false (d2 + 1) (.inl none) z.2 90 [(0, .ref l0), (1, .int l1), (2, .int l2), (3, .int l3), (4, .int l4), (5, .int l5)] [] m) (l0 : Nat) (l1 : Int32) (l2 : Int32) (l3 : Int32) (l4 : Int32) (s0 : Int32) (m0 : ab_Mm) (z : (Unit × ab_Mm)) (h : bb_X12_addsHost_159 r29 r90 l0 l1 l2 l3 l4 s0 m0 = some z) : ab_W l g cX12_addsHost RX12 7 none [] false (d2 + 1) (.inl none) z.2 159 [(0, .ref l0), (1, .int l1), (2, .int l2), (3, .int l3), (4, .int l4)] [.int s0] m0 := by
  unfold bb_X12_addsHost_159 at h
  refine ru_istore dX12_addsHost_159 (by decide) <| ru_goto (tgt := 90) dX12_addsHost_161 (by decide) <| ?_
  exact ru_pick [0, 1, 2, 3, 4, 5] rfl (hr90 _ _ _ _ _ _ _ _ h)
theorem tbb_X12_addsHost_142 {l : Launch} {g : ab_G} (hl0 : l.stackTraces = false) {d2 : Nat} (hd : 1 ≤ d2 + 1) (r29 : Nat → Int32 → Int32 → Int32 → ab_Mm → Option (Unit × ab_Mm)) (r90 : Nat → Int32 → Int32 → Int32 → Int32 → Int32 → ab_Mm → Option (Unit × ab_Mm)) (hr29 : ∀ (l0 : Nat) (l1 : Int32) (l2 : Int32) (l3 : Int32) (m : ab_Mm) (z : (Unit × ab_Mm)), r29 l0 l1 l2 l3 m = some z → ab_W l g cX12_addsHost RX12 7 none [] false (d2 + 1) (.inl none) z.2 29 [(0, .ref l0), (1, .int l1), (2, .int l2), (3, .int l3)] [] m) (hr90 : ∀ (l0 : Nat) (l1 : Int32) (l2 : Int32) (l3 : Int32) (l4 : Int32) (l5 : Int32) (m : ab_Mm) (z : (Unit × ab_Mm)), r90 l0 l1 l2 l3 l4 l5 m = some z → ab_W l g cX12_addsHost RX12 7 none [] false (d2 + 1) (.inl none) z.2 90 [(0, .ref l0), (1, .int l1), (2, .int l2), (3, .int l3), (4, .int l4), (5, .int l5)] [] m) (l0 : Nat) (l1 : Int32) (l2 : Int32) (l3 : Int32) (l4 : Int32) (l5 : Int32) (s0 : Nat) (s1 : Int32) (s2 : Int32) (m0 : ab_Mm) (z : (Unit × ab_Mm)) (h : bb_X12_addsHost_142 r29 r90 l0 l1 l2 l3 l4 l5 s0 s1 s2 m0 = some z) : ab_W l g cX12_addsHost RX12 7 none [] false (d2 + 1) (.inl none) z.2 142 [(0, .ref l0), (1, .int l1), (2, .int l2), (3, .int l3), (4, .int l4), (5, .int l5)] [.int s2, .int s1, .ref s0] m0 := by
  unfold bb_X12_addsHost_142 at h
  refine ru_iastore h dX12_addsHost_142 ?_
  intro m1 h
  refine ru_iload dX12_addsHost_143 rfl <| ?_
  refine ru_if_ne (tgt := 152) dX12_addsHost_145 (by decide) (fun hc => ?_) (fun hc => ?_)
  · rw [if_neg hc] at h
    refine ru_iload dX12_addsHost_152 rfl <| ru_iconst dX12_addsHost_154 kc_i_1 <| ru_isub dX12_addsHost_155 <| ru_iload dX12_addsHost_156 rfl <| ru_iand dX12_addsHost_158 <| ?_
    exact ru_pick [0, 1, 2, 3, 4] rfl (tbb_X12_addsHost_159 hl0 hd _ _ hr29 hr90 _ _ _ _ _ _ _ _ h)
  · rw [if_pos hc] at h
    refine ru_iconst dX12_addsHost_148 kc_i_m1 <| ru_goto (tgt := 159) dX12_addsHost_149 (by decide) <| ?_
    exact ru_pick [0, 1, 2, 3, 4] rfl (tbb_X12_addsHost_159 hl0 hd _ _ hr29 hr90 _ _ _ _ _ _ _ _ h)
theorem tbb_X12_addsHost_90 {l : Launch} {g : ab_G} (hl0 : l.stackTraces = false) {d2 : Nat} (hd : 1 ≤ d2 + 1) (r29 : Nat → Int32 → Int32 → Int32 → ab_Mm → Option (Unit × ab_Mm)) (hr29 : ∀ (l0 : Nat) (l1 : Int32) (l2 : Int32) (l3 : Int32) (m : ab_Mm) (z : (Unit × ab_Mm)), r29 l0 l1 l2 l3 m = some z → ab_W l g cX12_addsHost RX12 7 none [] false (d2 + 1) (.inl none) z.2 29 [(0, .ref l0), (1, .int l1), (2, .int l2), (3, .int l3)] [] m) : ∀ (n : Nat) (l0 : Nat) (l1 : Int32) (l2 : Int32) (l3 : Int32) (l4 : Int32) (l5 : Int32) (m0 : ab_Mm) (z : (Unit × ab_Mm)), bb_X12_addsHost_90 r29 n l0 l1 l2 l3 l4 l5 m0 = some z → ab_W l g cX12_addsHost RX12 7 none [] false (d2 + 1) (.inl none) z.2 90 [(0, .ref l0), (1, .int l1), (2, .int l2), (3, .int l3), (4, .int l4), (5, .int l5)] [] m0 := by
  intro n
  induction n with
  | zero => intro l0 l1 l2 l3 l4 l5 m0 z h; cases h
  | succ n ih =>
    intro l0 l1 l2 l3 l4 l5 m0 z h
    rw [bb_X12_addsHost_90] at h
    refine ru_iload dX12_addsHost_90 rfl <| ?_
    refine ru_if_lt (tgt := 164) dX12_addsHost_92 (by decide) (fun hc => ?_) (fun hc => ?_)
    · rw [if_pos hc] at h
      exact ru_pick [0, 1, 2, 3] rfl (tbb_X12_addsHost_164 hl0 hd _ hr29 _ _ _ _ _ _ h)
    · rw [if_neg hc] at h
      refine ru_aload_n (i := 0) dX12_addsHost_95 rfl rfl <| ?_
      refine ru_getR h dX12_addsHost_96 lk_X12_49 ?_
      intro v1 h
      refine ru_iload dX12_addsHost_99 rfl <| ?_
      refine ru_iaload h dX12_addsHost_101 ?_
      intro v2 h
      refine ru_iconst dX12_addsHost_102 kc_i_1 <| ru_iadd dX12_addsHost_103 <| ru_istore dX12_addsHost_104 (by decide) <| ru_aload_n (i := 0) dX12_addsHost_106 rfl rfl <| ?_
      refine ru_getR h dX12_addsHost_107 lk_X12_46 ?_
      intro v3 h
      refine ru_iload dX12_addsHost_110 rfl <| ru_iload_n (i := 3) dX12_addsHost_112 rfl rfl <| ru_ior dX12_addsHost_113 <| ru_iload dX12_addsHost_114 rfl <| ru_aload_n (i := 0) dX12_addsHost_116 rfl rfl <| ?_
      refine ru_getR h dX12_addsHost_117 lk_X12_46 ?_
      intro v4 h
      refine ru_iload dX12_addsHost_120 rfl <| ru_iload_n (i := 3) dX12_addsHost_122 rfl rfl <| ru_ior dX12_addsHost_123 <| ?_
      refine ru_iaload h dX12_addsHost_124 ?_
      intro v5 h
      refine ru_icmp_ge (tgt := 133) dX12_addsHost_125 (by decide) (fun hc => ?_) (fun hc => ?_)
      · rw [if_pos hc] at h
        refine ru_aload_n (i := 0) dX12_addsHost_133 rfl rfl <| ?_
        refine ru_getR h dX12_addsHost_134 lk_X12_46 ?_
        intro v6 h
        refine ru_iload dX12_addsHost_137 rfl <| ru_iload_n (i := 3) dX12_addsHost_139 rfl rfl <| ru_ior dX12_addsHost_140 <| ?_
        refine ru_iaload h dX12_addsHost_141 ?_
        intro v7 h
        exact ru_pick [0, 1, 2, 3, 4, 5] rfl (tbb_X12_addsHost_142 hl0 hd _ _ hr29 ih _ _ _ _ _ _ _ _ _ _ _ h)
      · rw [if_neg hc] at h
        refine ru_iload dX12_addsHost_128 rfl <| ru_goto (tgt := 142) dX12_addsHost_130 (by decide) <| ?_
        exact ru_pick [0, 1, 2, 3, 4, 5] rfl (tbb_X12_addsHost_142 hl0 hd _ _ hr29 ih _ _ _ _ _ _ _ _ _ _ _ h)
