/-! ===== the methods keep to these functions (by program) ===== -/
theorem tm_X12_reserveLine {l : Launch} {g : ab_G} (hl0 : l.stackTraces = false) {d : Nat} (hd : 5 ≤ d) {l0 : Nat} {l1 : Int32} {m : ab_Mm} {z : (Int32 × ab_Mm)} (h : dd_X12_reserveLine l0 l1 m = some z) : ab_Met l g yX12_reserveLine cX12_reserveLine 2 (some .boolean) [] d [.ref l0, .int l1] m (.inl (some (.int z.1))) z.2 := by
  obtain ⟨d2, rfl⟩ : ∃ d2, d = d2 + 1 := ⟨d - 1, by omega⟩
  exact ab_of hl0 (by decide +kernel) (Nat.le_of_ble_eq_true rfl) (fun q => by cases q) rfl (te_X12_reserveLine hl0 hd _ _ _ _ h)
theorem tbb_X12_oneMore_20 {l : Launch} {g : ab_G} (hl0 : l.stackTraces = false) {d2 : Nat} (hd : 4 ≤ d2 + 1)   (s0 : Nat) (s1 : Int32) (s2 : Int32) (m0 : ab_Mm) (z : (Int32 × ab_Mm)) (h : bb_X12_oneMore_20  s0 s1 s2 m0 = some z) : ab_W l g cX12_oneMore RX12 3 (some .boolean) [] false (d2 + 1) (.inl (some (.int z.1))) z.2 20 [] [.int s2, .int s1, .ref s0] m0 := by
  unfold bb_X12_oneMore_20 at h
  obtain ⟨_, hrc, h⟩ := Option.bind_eq_some_iff.mp h
  obtain ⟨q1, hq1, h⟩ := Option.bind_eq_some_iff.mp h
  refine ru_callV (tm_X12_starts hl0 (by omega) hq1) dX12_oneMore_20 rfl pm_X12_163 mf_X12_starts (ab_rcv_of hrc rfl) rfl rfl (Nat.le_of_ble_eq_true rfl) ?_
  rcases ab_iff h with ⟨hc, h⟩ | ⟨hc, h⟩
  · cases h
  cases h
  exact ru_ret (v := some (.int _)) ⟨_, rfl, congrArg Value.int (Classical.not_not.mp hc), dX12_oneMore_23⟩
theorem te_X12_oneMore {l : Launch} {g : ab_G} (hl0 : l.stackTraces = false) {d2 : Nat} (hd : 4 ≤ d2 + 1)   (l0 : Nat) (l1 : Int32) (l2 : Int32) (m0 : ab_Mm) (z : (Int32 × ab_Mm)) (h : dd_X12_oneMore  l0 l1 l2 m0 = some z) : ab_W l g cX12_oneMore RX12 3 (some .boolean) [] false (d2 + 1) (.inl (some (.int z.1))) z.2 0 [(0, .ref l0), (1, .int l1), (2, .int l2)] [] m0 := by
  unfold dd_X12_oneMore at h
  refine ru_aload_n (i := 0) dX12_oneMore_0 rfl rfl <| ru_iconst dX12_oneMore_1 kc_i_4 <| ru_aload_n (i := 0) dX12_oneMore_2 rfl rfl <| ?_
  refine ru_getR h dX12_oneMore_3 lk_X12_13 ?_
  intro v1 h
  refine ru_bipush dX12_oneMore_6 kc_b_7 <| ru_iload_n (i := 1) dX12_oneMore_8 rfl rfl <| ru_iadd dX12_oneMore_9 <| ?_
  refine ru_iaload h dX12_oneMore_10 ?_
  intro v2 h
  refine ru_iload_n (i := 2) dX12_oneMore_11 rfl rfl <| ?_
  refine ru_icmp_ge (tgt := 19) dX12_oneMore_12 (by decide) (fun hc => ?_) (fun hc => ?_)
  · rw [if_pos hc] at h
    refine ru_iconst dX12_oneMore_19 kc_i_0 <| ?_
    exact ru_pick [] rfl (tbb_X12_oneMore_20 hl0 hd   _ _ _ _ _ h)
  · rw [if_neg hc] at h
    refine ru_iconst dX12_oneMore_15 kc_i_1 <| ru_goto (tgt := 20) dX12_oneMore_16 (by decide) <| ?_
    exact ru_pick [] rfl (tbb_X12_oneMore_20 hl0 hd   _ _ _ _ _ h)
theorem tm_X12_oneMore {l : Launch} {g : ab_G} (hl0 : l.stackTraces = false) {d : Nat} (hd : 4 ≤ d) {l0 : Nat} {l1 : Int32} {l2 : Int32} {m : ab_Mm} {z : (Int32 × ab_Mm)} (h : dd_X12_oneMore l0 l1 l2 m = some z) : ab_Met l g yX12_oneMore cX12_oneMore 3 (some .boolean) [] d [.ref l0, .int l1, .int l2] m (.inl (some (.int z.1))) z.2 := by
  obtain ⟨d2, rfl⟩ : ∃ d2, d = d2 + 1 := ⟨d - 1, by omega⟩
  exact ab_of hl0 (by decide +kernel) (Nat.le_of_ble_eq_true rfl) (fun q => by cases q) rfl (te_X12_oneMore hl0 hd _ _ _ _ _ h)
theorem te_X12_counts {l : Launch} {g : ab_G} (hl0 : l.stackTraces = false) {d2 : Nat} (hd : 1 ≤ d2 + 1)   (l0 : Nat) (l1 : Int32) (m0 : ab_Mm) (z : (Int32 × ab_Mm)) (h : dd_X12_counts  l0 l1 m0 = some z) : ab_W l g cX12_counts RX12 2 (some .boolean) [] false (d2 + 1) (.inl (some (.int z.1))) z.2 0 [(0, .ref l0), (1, .int l1)] [] m0 := by
  unfold dd_X12_counts at h
  refine ru_aload_n (i := 0) dX12_counts_0 rfl rfl <| ?_
  refine ru_getR h dX12_counts_1 lk_X12_13 ?_
  intro v1 h
  refine ru_bipush dX12_counts_4 kc_b_7 <| ru_iload_n (i := 1) dX12_counts_6 rfl rfl <| ru_iadd dX12_counts_7 <| ru_dup2 dX12_counts_8 rfl rfl <| ?_
  refine ru_iaload h dX12_counts_9 ?_
  intro v2 h
  refine ru_iconst dX12_counts_10 kc_i_1 <| ru_iadd dX12_counts_11 <| ?_
  refine ru_iastore h dX12_counts_12 ?_
  intro m3 h
  refine ru_iconst dX12_counts_13 kc_i_1 <| ?_
  cases h
  exact ru_ret (v := some (.int _)) ⟨_, rfl, ab_nz1, dX12_counts_14⟩
theorem tm_X12_counts {l : Launch} {g : ab_G} (hl0 : l.stackTraces = false) {d : Nat} (hd : 1 ≤ d) {l0 : Nat} {l1 : Int32} {m : ab_Mm} {z : (Int32 × ab_Mm)} (h : dd_X12_counts l0 l1 m = some z) : ab_Met l g yX12_counts cX12_counts 2 (some .boolean) [] d [.ref l0, .int l1] m (.inl (some (.int z.1))) z.2 := by
  obtain ⟨d2, rfl⟩ : ∃ d2, d = d2 + 1 := ⟨d - 1, by omega⟩
  exact ab_of hl0 (by decide +kernel) (Nat.le_of_ble_eq_true rfl) (fun q => by cases q) rfl (te_X12_counts hl0 hd _ _ _ _ h)
theorem tbb_X12_nameHere_53 {l : Launch} {g : ab_G} (hl0 : l.stackTraces = false) {d2 : Nat} (hd : 6 ≤ d2 + 1)   (s0 : Int32) (m0 : ab_Mm) (z : (Int32 × ab_Mm)) (h : bb_X12_nameHere_53  s0 m0 = some z) : ab_W l g cX12_nameHere RX12 1 (some .int) [] false (d2 + 1) (.inl (some (.int z.1))) z.2 53 [] [.int s0] m0 := by
  unfold bb_X12_nameHere_53 at h
  cases h
  exact ru_ret (v := some (.int _)) ⟨_, rfl, rfl, dX12_nameHere_53⟩
theorem te_X12_nameHere {l : Launch} {g : ab_G} (hl0 : l.stackTraces = false) {d2 : Nat} (hd : 6 ≤ d2 + 1)   (l0 : Nat) (m0 : ab_Mm) (z : (Int32 × ab_Mm)) (h : dd_X12_nameHere  l0 m0 = some z) : ab_W l g cX12_nameHere RX12 1 (some .int) [] false (d2 + 1) (.inl (some (.int z.1))) z.2 0 [(0, .ref l0)] [] m0 := by
  unfold dd_X12_nameHere at h
  refine ru_aload_n (i := 0) dX12_nameHere_0 rfl rfl <| ru_ldcS (i := 20) (tx := "cpu") dX12_nameHere_1 (by decide +kernel) <| ?_
  obtain ⟨_, hrc, h⟩ := Option.bind_eq_some_iff.mp h
  obtain ⟨q1, hq1, h⟩ := Option.bind_eq_some_iff.mp h
  refine ru_callV (tm_X12_isWord hl0 (by omega) hq1) dX12_nameHere_3 rfl pm_X12_179 mf_X12_isWord (ab_rcv_of hrc rfl) rfl rfl (Nat.le_of_ble_eq_true rfl) ?_
  refine ru_if_eq (tgt := 13) dX12_nameHere_6 (by decide) (fun hc => ?_) (fun hc => ?_)
  · rw [if_pos hc] at h
    refine ru_aload_n (i := 0) dX12_nameHere_13 rfl rfl <| ru_ldcS (i := 21) (tx := "memory") dX12_nameHere_14 (by decide +kernel) <| ?_
    obtain ⟨_, hrc, h⟩ := Option.bind_eq_some_iff.mp h
    obtain ⟨q2, hq2, h⟩ := Option.bind_eq_some_iff.mp h
    refine ru_callV (tm_X12_isWord hl0 (by omega) hq2) dX12_nameHere_16 rfl pm_X12_179 mf_X12_isWord (ab_rcv_of hrc rfl) rfl rfl (Nat.le_of_ble_eq_true rfl) ?_
    refine ru_if_eq (tgt := 26) dX12_nameHere_19 (by decide) (fun hc => ?_) (fun hc => ?_)
    · rw [if_pos hc] at h
      refine ru_aload_n (i := 0) dX12_nameHere_26 rfl rfl <| ru_ldcS (i := 22) (tx := "price") dX12_nameHere_27 (by decide +kernel) <| ?_
      obtain ⟨_, hrc, h⟩ := Option.bind_eq_some_iff.mp h
      obtain ⟨q3, hq3, h⟩ := Option.bind_eq_some_iff.mp h
      refine ru_callV (tm_X12_isWord hl0 (by omega) hq3) dX12_nameHere_29 rfl pm_X12_179 mf_X12_isWord (ab_rcv_of hrc rfl) rfl rfl (Nat.le_of_ble_eq_true rfl) ?_
      refine ru_if_eq (tgt := 39) dX12_nameHere_32 (by decide) (fun hc => ?_) (fun hc => ?_)
      · rw [if_pos hc] at h
        refine ru_aload_n (i := 0) dX12_nameHere_39 rfl rfl <| ru_ldcS (i := 23) (tx := "age") dX12_nameHere_40 (by decide +kernel) <| ?_
        obtain ⟨_, hrc, h⟩ := Option.bind_eq_some_iff.mp h
        obtain ⟨q4, hq4, h⟩ := Option.bind_eq_some_iff.mp h
        refine ru_callV (tm_X12_isWord hl0 (by omega) hq4) dX12_nameHere_42 rfl pm_X12_179 mf_X12_isWord (ab_rcv_of hrc rfl) rfl rfl (Nat.le_of_ble_eq_true rfl) ?_
        refine ru_if_eq (tgt := 52) dX12_nameHere_45 (by decide) (fun hc => ?_) (fun hc => ?_)
        · rw [if_pos hc] at h
          refine ru_iconst dX12_nameHere_52 kc_i_0 <| ?_
          exact ru_pick [] rfl (tbb_X12_nameHere_53 hl0 hd   _ _ _ h)
        · rw [if_neg hc] at h
          refine ru_iconst dX12_nameHere_48 kc_i_4 <| ru_goto (tgt := 53) dX12_nameHere_49 (by decide) <| ?_
          exact ru_pick [] rfl (tbb_X12_nameHere_53 hl0 hd   _ _ _ h)
      · rw [if_neg hc] at h
        refine ru_iconst dX12_nameHere_35 kc_i_3 <| ru_goto (tgt := 53) dX12_nameHere_36 (by decide) <| ?_
        exact ru_pick [] rfl (tbb_X12_nameHere_53 hl0 hd   _ _ _ h)
    · rw [if_neg hc] at h
      refine ru_iconst dX12_nameHere_22 kc_i_2 <| ru_goto (tgt := 53) dX12_nameHere_23 (by decide) <| ?_
      exact ru_pick [] rfl (tbb_X12_nameHere_53 hl0 hd   _ _ _ h)
  · rw [if_neg hc] at h
    refine ru_iconst dX12_nameHere_9 kc_i_1 <| ru_goto (tgt := 53) dX12_nameHere_10 (by decide) <| ?_
    exact ru_pick [] rfl (tbb_X12_nameHere_53 hl0 hd   _ _ _ h)
theorem tm_X12_nameHere {l : Launch} {g : ab_G} (hl0 : l.stackTraces = false) {d : Nat} (hd : 6 ≤ d) {l0 : Nat} {m : ab_Mm} {z : (Int32 × ab_Mm)} (h : dd_X12_nameHere l0 m = some z) : ab_Met l g yX12_nameHere cX12_nameHere 1 (some .int) [] d [.ref l0] m (.inl (some (.int z.1))) z.2 := by
  obtain ⟨d2, rfl⟩ : ∃ d2, d = d2 + 1 := ⟨d - 1, by omega⟩
  exact ab_of hl0 (by decide +kernel) (Nat.le_of_ble_eq_true rfl) (fun q => by cases q) rfl (te_X12_nameHere hl0 hd _ _ _ h)
theorem tbb_X12_factor_98 {l : Launch} {g : ab_G} (hl0 : l.stackTraces = false) {d2 : Nat} (hd : 7 ≤ d2 + 1) (c_X12_factor : Nat → ab_Mm → Option (Int32 × ab_Mm)) (c_X12_sum : Nat → ab_Mm → Option (Int32 × ab_Mm)) (c_X12_term : Nat → ab_Mm → Option (Int32 × ab_Mm)) (hc_X12_factor : ∀ (a0 : Nat) (m : ab_Mm) (z : (Int32 × ab_Mm)), c_X12_factor a0 m = some z → ab_Met l g yX12_factor cX12_factor 2 (some .boolean) [] d2 [.ref a0] m (.inl (some (.int z.1))) z.2) (hc_X12_sum : ∀ (a0 : Nat) (m : ab_Mm) (z : (Int32 × ab_Mm)), c_X12_sum a0 m = some z → ab_Met l g yX12_sum cX12_sum 2 (some .boolean) [] d2 [.ref a0] m (.inl (some (.int z.1))) z.2) (hc_X12_term : ∀ (a0 : Nat) (m : ab_Mm) (z : (Int32 × ab_Mm)), c_X12_term a0 m = some z → ab_Met l g yX12_term cX12_term 2 (some .boolean) [] d2 [.ref a0] m (.inl (some (.int z.1))) z.2) (l0 : Nat) (s0 : Int32) (m0 : ab_Mm) (z : (Int32 × ab_Mm)) (h : bb_X12_factor_98 c_X12_factor c_X12_sum c_X12_term l0 s0 m0 = some z) : ab_W l g cX12_factor RX12 2 (some .boolean) [] false (d2 + 1) (.inl (some (.int z.1))) z.2 98 [(0, .ref l0)] [.int s0] m0 := by
  unfold bb_X12_factor_98 at h
  refine ru_istore_n (i := 1) dX12_factor_98 rfl (by decide) <| ru_iload_n (i := 1) dX12_factor_99 rfl rfl <| ?_
  refine ru_if_ne (tgt := 109) dX12_factor_100 (by decide) (fun hc => ?_) (fun hc => ?_)
  · rw [if_neg hc] at h
    refine ru_aload_n (i := 0) dX12_factor_109 rfl rfl <| ?_
    obtain ⟨_, hrc, h⟩ := Option.bind_eq_some_iff.mp h
    obtain ⟨q1, hq1, h⟩ := Option.bind_eq_some_iff.mp h
    refine ru_callV (tm_X12_advance hl0 (by omega) hq1) dX12_factor_110 rfl pm_X12_153 mf_X12_advance (ab_rcv_of hrc rfl) rfl rfl (Nat.le_of_ble_eq_true rfl) ?_
    refine ru_aload_n (i := 0) dX12_factor_113 rfl rfl <| ru_iload_n (i := 1) dX12_factor_114 rfl rfl <| ?_
    obtain ⟨_, hrc, h⟩ := Option.bind_eq_some_iff.mp h
    obtain ⟨q2, hq2, h⟩ := Option.bind_eq_some_iff.mp h
    refine ru_callV (tm_X12_emit hl0 (by omega) hq2) dX12_factor_115 rfl pm_X12_90 mf_X12_emit (ab_rcv_of hrc rfl) rfl rfl (Nat.le_of_ble_eq_true rfl) ?_
    rcases ab_iff h with ⟨hc, h⟩ | ⟨hc, h⟩
    · cases h
    cases h
    exact ru_ret (v := some (.int _)) ⟨_, rfl, congrArg Value.int (Classical.not_not.mp hc), dX12_factor_118⟩
  · rw [if_pos hc] at h
    refine ru_aload_n (i := 0) dX12_factor_103 rfl rfl <| ru_iconst dX12_factor_104 kc_i_1 <| ?_
    obtain ⟨_, hrc, h⟩ := Option.bind_eq_some_iff.mp h
    obtain ⟨q3, hq3, h⟩ := Option.bind_eq_some_iff.mp h
    refine ru_callV (tm_X12_fails hl0 (by omega) hq3) dX12_factor_105 rfl pm_X12_147 mf_X12_fails (ab_rcv_of hrc rfl) rfl rfl (Nat.le_of_ble_eq_true rfl) ?_
    rcases ab_iff h with ⟨hc, h⟩ | ⟨hc, h⟩
    · cases h
    cases h
    exact ru_ret (v := some (.int _)) ⟨_, rfl, congrArg Value.int (Classical.not_not.mp hc), dX12_factor_108⟩
theorem tbb_X12_factor_63 {l : Launch} {g : ab_G} (hl0 : l.stackTraces = false) {d2 : Nat} (hd : 7 ≤ d2 + 1) (c_X12_factor : Nat → ab_Mm → Option (Int32 × ab_Mm)) (c_X12_sum : Nat → ab_Mm → Option (Int32 × ab_Mm)) (c_X12_term : Nat → ab_Mm → Option (Int32 × ab_Mm)) (hc_X12_factor : ∀ (a0 : Nat) (m : ab_Mm) (z : (Int32 × ab_Mm)), c_X12_factor a0 m = some z → ab_Met l g yX12_factor cX12_factor 2 (some .boolean) [] d2 [.ref a0] m (.inl (some (.int z.1))) z.2) (hc_X12_sum : ∀ (a0 : Nat) (m : ab_Mm) (z : (Int32 × ab_Mm)), c_X12_sum a0 m = some z → ab_Met l g yX12_sum cX12_sum 2 (some .boolean) [] d2 [.ref a0] m (.inl (some (.int z.1))) z.2) (hc_X12_term : ∀ (a0 : Nat) (m : ab_Mm) (z : (Int32 × ab_Mm)), c_X12_term a0 m = some z → ab_Met l g yX12_term cX12_term 2 (some .boolean) [] d2 [.ref a0] m (.inl (some (.int z.1))) z.2) (l0 : Nat) (s0 : Int32) (m0 : ab_Mm) (z : (Int32 × ab_Mm)) (h : bb_X12_factor_63 c_X12_factor c_X12_sum c_X12_term l0 s0 m0 = some z) : ab_W l g cX12_factor RX12 2 (some .boolean) [] false (d2 + 1) (.inl (some (.int z.1))) z.2 63 [(0, .ref l0)] [.int s0] m0 := by
  unfold bb_X12_factor_63 at h
  refine ru_istore_n (i := 1) dX12_factor_63 rfl (by decide) <| ru_aload_n (i := 0) dX12_factor_64 rfl rfl <| ru_dup dX12_factor_65 rfl <| ?_
  refine ru_getI h dX12_factor_66 lk_X12_213 ?_
  intro v1 h
  refine ru_iconst dX12_factor_69 kc_i_1 <| ru_isub dX12_factor_70 <| ?_
  refine ru_putI h dX12_factor_71 lk_X12_213 ?_
  intro m2 h
  refine ru_iload_n (i := 1) dX12_factor_74 rfl rfl <| ?_
  rcases ab_iff h with ⟨hc, h⟩ | ⟨hc, h⟩
  · cases h
  cases h
  exact ru_ret (v := some (.int _)) ⟨_, rfl, congrArg Value.int (Classical.not_not.mp hc), dX12_factor_75⟩
theorem tbb_X12_factor_62 {l : Launch} {g : ab_G} (hl0 : l.stackTraces = false) {d2 : Nat} (hd : 7 ≤ d2 + 1) (c_X12_factor : Nat → ab_Mm → Option (Int32 × ab_Mm)) (c_X12_sum : Nat → ab_Mm → Option (Int32 × ab_Mm)) (c_X12_term : Nat → ab_Mm → Option (Int32 × ab_Mm)) (hc_X12_factor : ∀ (a0 : Nat) (m : ab_Mm) (z : (Int32 × ab_Mm)), c_X12_factor a0 m = some z → ab_Met l g yX12_factor cX12_factor 2 (some .boolean) [] d2 [.ref a0] m (.inl (some (.int z.1))) z.2) (hc_X12_sum : ∀ (a0 : Nat) (m : ab_Mm) (z : (Int32 × ab_Mm)), c_X12_sum a0 m = some z → ab_Met l g yX12_sum cX12_sum 2 (some .boolean) [] d2 [.ref a0] m (.inl (some (.int z.1))) z.2) (hc_X12_term : ∀ (a0 : Nat) (m : ab_Mm) (z : (Int32 × ab_Mm)), c_X12_term a0 m = some z → ab_Met l g yX12_term cX12_term 2 (some .boolean) [] d2 [.ref a0] m (.inl (some (.int z.1))) z.2) (l0 : Nat) (m0 : ab_Mm) (z : (Int32 × ab_Mm)) (h : bb_X12_factor_62 c_X12_factor c_X12_sum c_X12_term l0 m0 = some z) : ab_W l g cX12_factor RX12 2 (some .boolean) [] false (d2 + 1) (.inl (some (.int z.1))) z.2 62 [(0, .ref l0)] [] m0 := by
  unfold bb_X12_factor_62 at h
  refine ru_iconst dX12_factor_62 kc_i_0 <| ?_
  exact ru_pick [0] rfl (tbb_X12_factor_63 hl0 hd _ _ _ hc_X12_factor hc_X12_sum hc_X12_term _ _ _ _ h)
theorem tbb_X12_factor_24 {l : Launch} {g : ab_G} (hl0 : l.stackTraces = false) {d2 : Nat} (hd : 7 ≤ d2 + 1) (c_X12_factor : Nat → ab_Mm → Option (Int32 × ab_Mm)) (c_X12_sum : Nat → ab_Mm → Option (Int32 × ab_Mm)) (c_X12_term : Nat → ab_Mm → Option (Int32 × ab_Mm)) (hc_X12_factor : ∀ (a0 : Nat) (m : ab_Mm) (z : (Int32 × ab_Mm)), c_X12_factor a0 m = some z → ab_Met l g yX12_factor cX12_factor 2 (some .boolean) [] d2 [.ref a0] m (.inl (some (.int z.1))) z.2) (hc_X12_sum : ∀ (a0 : Nat) (m : ab_Mm) (z : (Int32 × ab_Mm)), c_X12_sum a0 m = some z → ab_Met l g yX12_sum cX12_sum 2 (some .boolean) [] d2 [.ref a0] m (.inl (some (.int z.1))) z.2) (hc_X12_term : ∀ (a0 : Nat) (m : ab_Mm) (z : (Int32 × ab_Mm)), c_X12_term a0 m = some z → ab_Met l g yX12_term cX12_term 2 (some .boolean) [] d2 [.ref a0] m (.inl (some (.int z.1))) z.2) (l0 : Nat) (s0 : Nat) (s1 : Int32) (s2 : Int32) (m0 : ab_Mm) (z : (Int32 × ab_Mm)) (h : bb_X12_factor_24 c_X12_factor c_X12_sum c_X12_term l0 s0 s1 s2 m0 = some z) : ab_W l g cX12_factor RX12 2 (some .boolean) [] false (d2 + 1) (.inl (some (.int z.1))) z.2 24 [(0, .ref l0)] [.int s2, .int s1, .ref s0] m0 := by
  unfold bb_X12_factor_24 at h
  obtain ⟨_, hrc, h⟩ := Option.bind_eq_some_iff.mp h
  obtain ⟨q1, hq1, h⟩ := Option.bind_eq_some_iff.mp h
  refine ru_callV (tm_X12_starts hl0 (by omega) hq1) dX12_factor_24 rfl pm_X12_163 mf_X12_starts (ab_rcv_of hrc rfl) rfl rfl (Nat.le_of_ble_eq_true rfl) ?_
  refine ru_if_ne (tgt := 32) dX12_factor_27 (by decide) (fun hc => ?_) (fun hc => ?_)
  · rw [if_neg hc] at h
    refine ru_aload_n (i := 0) dX12_factor_32 rfl rfl <| ru_dup dX12_factor_33 rfl <| ?_
    refine ru_getI h dX12_factor_34 lk_X12_213 ?_
    intro v2 h
    refine ru_iconst dX12_factor_37 kc_i_1 <| ru_iadd dX12_factor_38 <| ?_
    refine ru_putI h dX12_factor_39 lk_X12_213 ?_
    intro m3 h
    refine ru_aload_n (i := 0) dX12_factor_42 rfl rfl <| ?_
    obtain ⟨_, hrc, h⟩ := Option.bind_eq_some_iff.mp h
    obtain ⟨q4, hq4, h⟩ := Option.bind_eq_some_iff.mp h
    refine ru_callV (hc_X12_sum _ _ _ hq4) dX12_factor_43 rfl pm_X12_216 mf_X12_sum (ab_rcv_of hrc rfl) rfl rfl (Nat.le_of_ble_eq_true rfl) ?_
    refine ru_if_eq (tgt := 62) dX12_factor_46 (by decide) (fun hc => ?_) (fun hc => ?_)
    · rw [if_pos hc] at h
      exact ru_pick [0] rfl (tbb_X12_factor_62 hl0 hd _ _ _ hc_X12_factor hc_X12_sum hc_X12_term _ _ _ h)
    · rw [if_neg hc] at h
      refine ru_aload_n (i := 0) dX12_factor_49 rfl rfl <| ru_bipush dX12_factor_50 kc_b_41 <| ?_
      obtain ⟨_, hrc, h⟩ := Option.bind_eq_some_iff.mp h
      obtain ⟨q5, hq5, h⟩ := Option.bind_eq_some_iff.mp h
      refine ru_callV (tm_X12_closes hl0 (by omega) hq5) dX12_factor_52 rfl pm_X12_232 mf_X12_closes (ab_rcv_of hrc rfl) rfl rfl (Nat.le_of_ble_eq_true rfl) ?_
      refine ru_if_eq (tgt := 62) dX12_factor_55 (by decide) (fun hc => ?_) (fun hc => ?_)
      · rw [if_pos hc] at h
        exact ru_pick [0] rfl (tbb_X12_factor_62 hl0 hd _ _ _ hc_X12_factor hc_X12_sum hc_X12_term _ _ _ h)
      · rw [if_neg hc] at h
        refine ru_iconst dX12_factor_58 kc_i_1 <| ru_goto (tgt := 63) dX12_factor_59 (by decide) <| ?_
        exact ru_pick [0] rfl (tbb_X12_factor_63 hl0 hd _ _ _ hc_X12_factor hc_X12_sum hc_X12_term _ _ _ _ h)
  · rw [if_pos hc] at h
    refine ru_iconst dX12_factor_30 kc_i_0 <| ?_
    cases h
    exact ru_ret (v := some (.int _)) ⟨_, rfl, ab_nz0, dX12_factor_31⟩
theorem te_X12_factor {l : Launch} {g : ab_G} (hl0 : l.stackTraces = false) {d2 : Nat} (hd : 7 ≤ d2 + 1) (c_X12_factor : Nat → ab_Mm → Option (Int32 × ab_Mm)) (c_X12_sum : Nat → ab_Mm → Option (Int32 × ab_Mm)) (c_X12_term : Nat → ab_Mm → Option (Int32 × ab_Mm)) (hc_X12_factor : ∀ (a0 : Nat) (m : ab_Mm) (z : (Int32 × ab_Mm)), c_X12_factor a0 m = some z → ab_Met l g yX12_factor cX12_factor 2 (some .boolean) [] d2 [.ref a0] m (.inl (some (.int z.1))) z.2) (hc_X12_sum : ∀ (a0 : Nat) (m : ab_Mm) (z : (Int32 × ab_Mm)), c_X12_sum a0 m = some z → ab_Met l g yX12_sum cX12_sum 2 (some .boolean) [] d2 [.ref a0] m (.inl (some (.int z.1))) z.2) (hc_X12_term : ∀ (a0 : Nat) (m : ab_Mm) (z : (Int32 × ab_Mm)), c_X12_term a0 m = some z → ab_Met l g yX12_term cX12_term 2 (some .boolean) [] d2 [.ref a0] m (.inl (some (.int z.1))) z.2) (l0 : Nat) (m0 : ab_Mm) (z : (Int32 × ab_Mm)) (h : st_X12_factor c_X12_factor c_X12_sum c_X12_term l0 m0 = some z) : ab_W l g cX12_factor RX12 2 (some .boolean) [] false (d2 + 1) (.inl (some (.int z.1))) z.2 0 [(0, .ref l0)] [] m0 := by
  unfold st_X12_factor at h
  refine ru_aload_n (i := 0) dX12_factor_0 rfl rfl <| ru_bipush dX12_factor_1 kc_b_40 <| ?_
  obtain ⟨_, hrc, h⟩ := Option.bind_eq_some_iff.mp h
  obtain ⟨q1, hq1, h⟩ := Option.bind_eq_some_iff.mp h
  refine ru_callV (tm_X12_isSignHere hl0 (by omega) hq1) dX12_factor_3 rfl pm_X12_170 mf_X12_isSignHere (ab_rcv_of hrc rfl) rfl rfl (Nat.le_of_ble_eq_true rfl) ?_
  refine ru_if_eq (tgt := 76) dX12_factor_6 (by decide) (fun hc => ?_) (fun hc => ?_)
  · rw [if_pos hc] at h
    refine ru_aload_n (i := 0) dX12_factor_76 rfl rfl <| ?_
    refine ru_getI h dX12_factor_77 lk_X12_117 ?_
    intro v2 h
    refine ru_iconst dX12_factor_80 kc_i_2 <| ?_
    refine ru_icmp_ne (tgt := 94) dX12_factor_81 (by decide) (fun hc => ?_) (fun hc => ?_)
    · rw [if_neg hc] at h
      refine ru_aload_n (i := 0) dX12_factor_94 rfl rfl <| ?_
      obtain ⟨_, hrc, h⟩ := Option.bind_eq_some_iff.mp h
      obtain ⟨q3, hq3, h⟩ := Option.bind_eq_some_iff.mp h
      refine ru_callV (tm_X12_nameHere hl0 (by omega) hq3) dX12_factor_95 rfl pm_X12_235 mf_X12_nameHere (ab_rcv_of hrc rfl) rfl rfl (Nat.le_of_ble_eq_true rfl) ?_
      exact ru_pick [0] rfl (tbb_X12_factor_98 hl0 hd _ _ _ hc_X12_factor hc_X12_sum hc_X12_term _ _ _ _ h)
    · rw [if_pos hc] at h
      refine ru_bipush dX12_factor_84 kc_b_100 <| ru_aload_n (i := 0) dX12_factor_86 rfl rfl <| ?_
      refine ru_getI h dX12_factor_87 lk_X12_114 ?_
      intro v4 h
      refine ru_iadd dX12_factor_90 <| ru_goto (tgt := 98) dX12_factor_91 (by decide) <| ?_
      exact ru_pick [0] rfl (tbb_X12_factor_98 hl0 hd _ _ _ hc_X12_factor hc_X12_sum hc_X12_term _ _ _ _ h)
  · rw [if_neg hc] at h
    refine ru_aload_n (i := 0) dX12_factor_9 rfl rfl <| ru_iconst dX12_factor_10 kc_i_4 <| ru_aload_n (i := 0) dX12_factor_11 rfl rfl <| ?_
    refine ru_getI h dX12_factor_12 lk_X12_213 ?_
    intro v5 h
    refine ru_iconst dX12_factor_15 kc_i_5 <| ?_
    refine ru_icmp_ge (tgt := 23) dX12_factor_16 (by decide) (fun hc => ?_) (fun hc => ?_)
    · rw [if_pos hc] at h
      refine ru_iconst dX12_factor_23 kc_i_0 <| ?_
      exact ru_pick [0] rfl (tbb_X12_factor_24 hl0 hd _ _ _ hc_X12_factor hc_X12_sum hc_X12_term _ _ _ _ _ _ h)
    · rw [if_neg hc] at h
      refine ru_iconst dX12_factor_19 kc_i_1 <| ru_goto (tgt := 24) dX12_factor_20 (by decide) <| ?_
      exact ru_pick [0] rfl (tbb_X12_factor_24 hl0 hd _ _ _ hc_X12_factor hc_X12_sum hc_X12_term _ _ _ _ _ _ h)
theorem tbb_X12_sum_42 {l : Launch} {g : ab_G} (hl0 : l.stackTraces = false) {d2 : Nat} (hd : 7 ≤ d2 + 1) (c_X12_factor : Nat → ab_Mm → Option (Int32 × ab_Mm)) (c_X12_sum : Nat → ab_Mm → Option (Int32 × ab_Mm)) (c_X12_term : Nat → ab_Mm → Option (Int32 × ab_Mm)) (r9 : Nat → ab_Mm → Option (Int32 × ab_Mm)) (hc_X12_factor : ∀ (a0 : Nat) (m : ab_Mm) (z : (Int32 × ab_Mm)), c_X12_factor a0 m = some z → ab_Met l g yX12_factor cX12_factor 2 (some .boolean) [] d2 [.ref a0] m (.inl (some (.int z.1))) z.2) (hc_X12_sum : ∀ (a0 : Nat) (m : ab_Mm) (z : (Int32 × ab_Mm)), c_X12_sum a0 m = some z → ab_Met l g yX12_sum cX12_sum 2 (some .boolean) [] d2 [.ref a0] m (.inl (some (.int z.1))) z.2) (hc_X12_term : ∀ (a0 : Nat) (m : ab_Mm) (z : (Int32 × ab_Mm)), c_X12_term a0 m = some z → ab_Met l g yX12_term cX12_term 2 (some .boolean) [] d2 [.ref a0] m (.inl (some (.int z.1))) z.2) (hr9 : ∀ (l0 : Nat) (m : ab_Mm) (z : (Int32 × ab_Mm)), r9 l0 m = some z → ab_W l g cX12_sum RX12 2 (some .boolean) [] false (d2 + 1) (.inl (some (.int z.1))) z.2 9 [(0, .ref l0)] [] m) (l0 : Nat) (s0 : Int32) (m0 : ab_Mm) (z : (Int32 × ab_Mm)) (h : bb_X12_sum_42 c_X12_factor c_X12_sum c_X12_term r9 l0 s0 m0 = some z) : ab_W l g cX12_sum RX12 2 (some .boolean) [] false (d2 + 1) (.inl (some (.int z.1))) z.2 42 [(0, .ref l0)] [.int s0] m0 := by
  unfold bb_X12_sum_42 at h
  refine ru_istore_n (i := 1) dX12_sum_42 rfl (by decide) <| ru_aload_n (i := 0) dX12_sum_43 rfl rfl <| ?_
  obtain ⟨_, hrc, h⟩ := Option.bind_eq_some_iff.mp h
  obtain ⟨q1, hq1, h⟩ := Option.bind_eq_some_iff.mp h
  refine ru_callV (tm_X12_advance hl0 (by omega) hq1) dX12_sum_44 rfl pm_X12_153 mf_X12_advance (ab_rcv_of hrc rfl) rfl rfl (Nat.le_of_ble_eq_true rfl) ?_
  refine ru_aload_n (i := 0) dX12_sum_47 rfl rfl <| ?_
  obtain ⟨_, hrc, h⟩ := Option.bind_eq_some_iff.mp h
  obtain ⟨q2, hq2, h⟩ := Option.bind_eq_some_iff.mp h
  refine ru_callV (hc_X12_term _ _ _ hq2) dX12_sum_48 rfl pm_X12_220 mf_X12_term (ab_rcv_of hrc rfl) rfl rfl (Nat.le_of_ble_eq_true rfl) ?_
  refine ru_if_ne (tgt := 56) dX12_sum_51 (by decide) (fun hc => ?_) (fun hc => ?_)
  · rw [if_neg hc] at h
    refine ru_aload_n (i := 0) dX12_sum_56 rfl rfl <| ru_iload_n (i := 1) dX12_sum_57 rfl rfl <| ?_
    obtain ⟨_, hrc, h⟩ := Option.bind_eq_some_iff.mp h
    obtain ⟨q3, hq3, h⟩ := Option.bind_eq_some_iff.mp h
    refine ru_callV (tm_X12_emit hl0 (by omega) hq3) dX12_sum_58 rfl pm_X12_90 mf_X12_emit (ab_rcv_of hrc rfl) rfl rfl (Nat.le_of_ble_eq_true rfl) ?_
    refine ru_pop dX12_sum_61 rfl <| ru_goto (tgt := 9) dX12_sum_62 (by decide) <| ?_
    exact ru_pick [0] rfl (hr9 _ _ _ h)
  · rw [if_pos hc] at h
    refine ru_iconst dX12_sum_54 kc_i_0 <| ?_
    cases h
    exact ru_ret (v := some (.int _)) ⟨_, rfl, ab_nz0, dX12_sum_55⟩
theorem tbb_X12_sum_27 {l : Launch} {g : ab_G} (hl0 : l.stackTraces = false) {d2 : Nat} (hd : 7 ≤ d2 + 1) (c_X12_factor : Nat → ab_Mm → Option (Int32 × ab_Mm)) (c_X12_sum : Nat → ab_Mm → Option (Int32 × ab_Mm)) (c_X12_term : Nat → ab_Mm → Option (Int32 × ab_Mm)) (r9 : Nat → ab_Mm → Option (Int32 × ab_Mm)) (hc_X12_factor : ∀ (a0 : Nat) (m : ab_Mm) (z : (Int32 × ab_Mm)), c_X12_factor a0 m = some z → ab_Met l g yX12_factor cX12_factor 2 (some .boolean) [] d2 [.ref a0] m (.inl (some (.int z.1))) z.2) (hc_X12_sum : ∀ (a0 : Nat) (m : ab_Mm) (z : (Int32 × ab_Mm)), c_X12_sum a0 m = some z → ab_Met l g yX12_sum cX12_sum 2 (some .boolean) [] d2 [.ref a0] m (.inl (some (.int z.1))) z.2) (hc_X12_term : ∀ (a0 : Nat) (m : ab_Mm) (z : (Int32 × ab_Mm)), c_X12_term a0 m = some z → ab_Met l g yX12_term cX12_term 2 (some .boolean) [] d2 [.ref a0] m (.inl (some (.int z.1))) z.2) (hr9 : ∀ (l0 : Nat) (m : ab_Mm) (z : (Int32 × ab_Mm)), r9 l0 m = some z → ab_W l g cX12_sum RX12 2 (some .boolean) [] false (d2 + 1) (.inl (some (.int z.1))) z.2 9 [(0, .ref l0)] [] m) (l0 : Nat) (m0 : ab_Mm) (z : (Int32 × ab_Mm)) (h : bb_X12_sum_27 c_X12_factor c_X12_sum c_X12_term r9 l0 m0 = some z) : ab_W l g cX12_sum RX12 2 (some .boolean) [] false (d2 + 1) (.inl (some (.int z.1))) z.2 27 [(0, .ref l0)] [] m0 := by
  unfold bb_X12_sum_27 at h
  refine ru_aload_n (i := 0) dX12_sum_27 rfl rfl <| ?_
  refine ru_getI h dX12_sum_28 lk_X12_114 ?_
  intro v1 h
  refine ru_bipush dX12_sum_31 kc_b_43 <| ?_
  refine ru_icmp_ne (tgt := 40) dX12_sum_33 (by decide) (fun hc => ?_) (fun hc => ?_)
  · rw [if_neg hc] at h
    refine ru_bipush dX12_sum_40 kc_b_m2 <| ?_
    exact ru_pick [0] rfl (tbb_X12_sum_42 hl0 hd _ _ _ _ hc_X12_factor hc_X12_sum hc_X12_term hr9 _ _ _ _ h)
  · rw [if_pos hc] at h
    refine ru_iconst dX12_sum_36 kc_i_m1 <| ru_goto (tgt := 42) dX12_sum_37 (by decide) <| ?_
    exact ru_pick [0] rfl (tbb_X12_sum_42 hl0 hd _ _ _ _ hc_X12_factor hc_X12_sum hc_X12_term hr9 _ _ _ _ h)
theorem tbb_X12_sum_9 {l : Launch} {g : ab_G} (hl0 : l.stackTraces = false) {d2 : Nat} (hd : 7 ≤ d2 + 1) (c_X12_factor : Nat → ab_Mm → Option (Int32 × ab_Mm)) (c_X12_sum : Nat → ab_Mm → Option (Int32 × ab_Mm)) (c_X12_term : Nat → ab_Mm → Option (Int32 × ab_Mm)) (hc_X12_factor : ∀ (a0 : Nat) (m : ab_Mm) (z : (Int32 × ab_Mm)), c_X12_factor a0 m = some z → ab_Met l g yX12_factor cX12_factor 2 (some .boolean) [] d2 [.ref a0] m (.inl (some (.int z.1))) z.2) (hc_X12_sum : ∀ (a0 : Nat) (m : ab_Mm) (z : (Int32 × ab_Mm)), c_X12_sum a0 m = some z → ab_Met l g yX12_sum cX12_sum 2 (some .boolean) [] d2 [.ref a0] m (.inl (some (.int z.1))) z.2) (hc_X12_term : ∀ (a0 : Nat) (m : ab_Mm) (z : (Int32 × ab_Mm)), c_X12_term a0 m = some z → ab_Met l g yX12_term cX12_term 2 (some .boolean) [] d2 [.ref a0] m (.inl (some (.int z.1))) z.2) : ∀ (n : Nat) (l0 : Nat) (m0 : ab_Mm) (z : (Int32 × ab_Mm)), bb_X12_sum_9 c_X12_factor c_X12_sum c_X12_term n l0 m0 = some z → ab_W l g cX12_sum RX12 2 (some .boolean) [] false (d2 + 1) (.inl (some (.int z.1))) z.2 9 [(0, .ref l0)] [] m0 := by
  intro n
  induction n with
  | zero => intro l0 m0 z h; cases h
  | succ n ih =>
    intro l0 m0 z h
    rw [bb_X12_sum_9] at h
    refine ru_aload_n (i := 0) dX12_sum_9 rfl rfl <| ru_bipush dX12_sum_10 kc_b_43 <| ?_
    obtain ⟨_, hrc, h⟩ := Option.bind_eq_some_iff.mp h
    obtain ⟨q1, hq1, h⟩ := Option.bind_eq_some_iff.mp h
    refine ru_callV (tm_X12_isSignHere hl0 (by omega) hq1) dX12_sum_12 rfl pm_X12_170 mf_X12_isSignHere (ab_rcv_of hrc rfl) rfl rfl (Nat.le_of_ble_eq_true rfl) ?_
    refine ru_if_ne (tgt := 27) dX12_sum_15 (by decide) (fun hc => ?_) (fun hc => ?_)
    · rw [if_neg hc] at h
      exact ru_pick [0] rfl (tbb_X12_sum_27 hl0 hd _ _ _ _ hc_X12_factor hc_X12_sum hc_X12_term ih _ _ _ h)
    · rw [if_pos hc] at h
      refine ru_aload_n (i := 0) dX12_sum_18 rfl rfl <| ru_bipush dX12_sum_19 kc_b_45 <| ?_
      obtain ⟨_, hrc, h⟩ := Option.bind_eq_some_iff.mp h
      obtain ⟨q2, hq2, h⟩ := Option.bind_eq_some_iff.mp h
      refine ru_callV (tm_X12_isSignHere hl0 (by omega) hq2) dX12_sum_21 rfl pm_X12_170 mf_X12_isSignHere (ab_rcv_of hrc rfl) rfl rfl (Nat.le_of_ble_eq_true rfl) ?_
      refine ru_if_eq (tgt := 65) dX12_sum_24 (by decide) (fun hc => ?_) (fun hc => ?_)
      · rw [if_pos hc] at h
        refine ru_iconst dX12_sum_65 kc_i_1 <| ?_
        cases h
        exact ru_ret (v := some (.int _)) ⟨_, rfl, ab_nz1, dX12_sum_66⟩
      · rw [if_neg hc] at h
        exact ru_pick [0] rfl (tbb_X12_sum_27 hl0 hd _ _ _ _ hc_X12_factor hc_X12_sum hc_X12_term ih _ _ _ h)
theorem te_X12_sum {l : Launch} {g : ab_G} (hl0 : l.stackTraces = false) {d2 : Nat} (hd : 7 ≤ d2 + 1) (c_X12_factor : Nat → ab_Mm → Option (Int32 × ab_Mm)) (c_X12_sum : Nat → ab_Mm → Option (Int32 × ab_Mm)) (c_X12_term : Nat → ab_Mm → Option (Int32 × ab_Mm)) (hc_X12_factor : ∀ (a0 : Nat) (m : ab_Mm) (z : (Int32 × ab_Mm)), c_X12_factor a0 m = some z → ab_Met l g yX12_factor cX12_factor 2 (some .boolean) [] d2 [.ref a0] m (.inl (some (.int z.1))) z.2) (hc_X12_sum : ∀ (a0 : Nat) (m : ab_Mm) (z : (Int32 × ab_Mm)), c_X12_sum a0 m = some z → ab_Met l g yX12_sum cX12_sum 2 (some .boolean) [] d2 [.ref a0] m (.inl (some (.int z.1))) z.2) (hc_X12_term : ∀ (a0 : Nat) (m : ab_Mm) (z : (Int32 × ab_Mm)), c_X12_term a0 m = some z → ab_Met l g yX12_term cX12_term 2 (some .boolean) [] d2 [.ref a0] m (.inl (some (.int z.1))) z.2) (l0 : Nat) (m0 : ab_Mm) (z : (Int32 × ab_Mm)) (h : st_X12_sum c_X12_factor c_X12_sum c_X12_term l0 m0 = some z) : ab_W l g cX12_sum RX12 2 (some .boolean) [] false (d2 + 1) (.inl (some (.int z.1))) z.2 0 [(0, .ref l0)] [] m0 := by
  unfold st_X12_sum at h
  refine ru_aload_n (i := 0) dX12_sum_0 rfl rfl <| ?_
  obtain ⟨_, hrc, h⟩ := Option.bind_eq_some_iff.mp h
  obtain ⟨q1, hq1, h⟩ := Option.bind_eq_some_iff.mp h
  refine ru_callV (hc_X12_term _ _ _ hq1) dX12_sum_1 rfl pm_X12_220 mf_X12_term (ab_rcv_of hrc rfl) rfl rfl (Nat.le_of_ble_eq_true rfl) ?_
  refine ru_if_ne (tgt := 9) dX12_sum_4 (by decide) (fun hc => ?_) (fun hc => ?_)
  · rw [if_neg hc] at h
    exact ru_pick [0] rfl (tbb_X12_sum_9 hl0 hd _ _ _ hc_X12_factor hc_X12_sum hc_X12_term _ _ _ _ h)
  · rw [if_pos hc] at h
    refine ru_iconst dX12_sum_7 kc_i_0 <| ?_
    cases h
    exact ru_ret (v := some (.int _)) ⟨_, rfl, ab_nz0, dX12_sum_8⟩
theorem tbb_X12_term_43 {l : Launch} {g : ab_G} (hl0 : l.stackTraces = false) {d2 : Nat} (hd : 7 ≤ d2 + 1) (c_X12_factor : Nat → ab_Mm → Option (Int32 × ab_Mm)) (c_X12_sum : Nat → ab_Mm → Option (Int32 × ab_Mm)) (c_X12_term : Nat → ab_Mm → Option (Int32 × ab_Mm)) (r9 : Nat → ab_Mm → Option (Int32 × ab_Mm)) (hc_X12_factor : ∀ (a0 : Nat) (m : ab_Mm) (z : (Int32 × ab_Mm)), c_X12_factor a0 m = some z → ab_Met l g yX12_factor cX12_factor 2 (some .boolean) [] d2 [.ref a0] m (.inl (some (.int z.1))) z.2) (hc_X12_sum : ∀ (a0 : Nat) (m : ab_Mm) (z : (Int32 × ab_Mm)), c_X12_sum a0 m = some z → ab_Met l g yX12_sum cX12_sum 2 (some .boolean) [] d2 [.ref a0] m (.inl (some (.int z.1))) z.2) (hc_X12_term : ∀ (a0 : Nat) (m : ab_Mm) (z : (Int32 × ab_Mm)), c_X12_term a0 m = some z → ab_Met l g yX12_term cX12_term 2 (some .boolean) [] d2 [.ref a0] m (.inl (some (.int z.1))) z.2) (hr9 : ∀ (l0 : Nat) (m : ab_Mm) (z : (Int32 × ab_Mm)), r9 l0 m = some z → ab_W l g cX12_term RX12 2 (some .boolean) [] false (d2 + 1) (.inl (some (.int z.1))) z.2 9 [(0, .ref l0)] [] m) (l0 : Nat) (s0 : Int32) (m0 : ab_Mm) (z : (Int32 × ab_Mm)) (h : bb_X12_term_43 c_X12_factor c_X12_sum c_X12_term r9 l0 s0 m0 = some z) : ab_W l g cX12_term RX12 2 (some .boolean) [] false (d2 + 1) (.inl (some (.int z.1))) z.2 43 [(0, .ref l0)] [.int s0] m0 := by
  unfold bb_X12_term_43 at h
  refine ru_istore_n (i := 1) dX12_term_43 rfl (by decide) <| ru_aload_n (i := 0) dX12_term_44 rfl rfl <| ?_
  obtain ⟨_, hrc, h⟩ := Option.bind_eq_some_iff.mp h
  obtain ⟨q1, hq1, h⟩ := Option.bind_eq_some_iff.mp h
  refine ru_callV (tm_X12_advance hl0 (by omega) hq1) dX12_term_45 rfl pm_X12_153 mf_X12_advance (ab_rcv_of hrc rfl) rfl rfl (Nat.le_of_ble_eq_true rfl) ?_
  refine ru_aload_n (i := 0) dX12_term_48 rfl rfl <| ?_
  obtain ⟨_, hrc, h⟩ := Option.bind_eq_some_iff.mp h
  obtain ⟨q2, hq2, h⟩ := Option.bind_eq_some_iff.mp h
  refine ru_callV (hc_X12_factor _ _ _ hq2) dX12_term_49 rfl pm_X12_223 mf_X12_factor (ab_rcv_of hrc rfl) rfl rfl (Nat.le_of_ble_eq_true rfl) ?_
  refine ru_if_ne (tgt := 57) dX12_term_52 (by decide) (fun hc => ?_) (fun hc => ?_)
  · rw [if_neg hc] at h
    refine ru_aload_n (i := 0) dX12_term_57 rfl rfl <| ru_iload_n (i := 1) dX12_term_58 rfl rfl <| ?_
    obtain ⟨_, hrc, h⟩ := Option.bind_eq_some_iff.mp h
    obtain ⟨q3, hq3, h⟩ := Option.bind_eq_some_iff.mp h
    refine ru_callV (tm_X12_emit hl0 (by omega) hq3) dX12_term_59 rfl pm_X12_90 mf_X12_emit (ab_rcv_of hrc rfl) rfl rfl (Nat.le_of_ble_eq_true rfl) ?_
    refine ru_pop dX12_term_62 rfl <| ru_goto (tgt := 9) dX12_term_63 (by decide) <| ?_
    exact ru_pick [0] rfl (hr9 _ _ _ h)
  · rw [if_pos hc] at h
    refine ru_iconst dX12_term_55 kc_i_0 <| ?_
    cases h
    exact ru_ret (v := some (.int _)) ⟨_, rfl, ab_nz0, dX12_term_56⟩
theorem tbb_X12_term_27 {l : Launch} {g : ab_G} (hl0 : l.stackTraces = false) {d2 : Nat} (hd : 7 ≤ d2 + 1) (c_X12_factor : Nat → ab_Mm → Option (Int32 × ab_Mm)) (c_X12_sum : Nat → ab_Mm → Option (Int32 × ab_Mm)) (c_X12_term : Nat → ab_Mm → Option (Int32 × ab_Mm)) (r9 : Nat → ab_Mm → Option (Int32 × ab_Mm)) (hc_X12_factor : ∀ (a0 : Nat) (m : ab_Mm) (z : (Int32 × ab_Mm)), c_X12_factor a0 m = some z → ab_Met l g yX12_factor cX12_factor 2 (some .boolean) [] d2 [.ref a0] m (.inl (some (.int z.1))) z.2) (hc_X12_sum : ∀ (a0 : Nat) (m : ab_Mm) (z : (Int32 × ab_Mm)), c_X12_sum a0 m = some z → ab_Met l g yX12_sum cX12_sum 2 (some .boolean) [] d2 [.ref a0] m (.inl (some (.int z.1))) z.2) (hc_X12_term : ∀ (a0 : Nat) (m : ab_Mm) (z : (Int32 × ab_Mm)), c_X12_term a0 m = some z → ab_Met l g yX12_term cX12_term 2 (some .boolean) [] d2 [.ref a0] m (.inl (some (.int z.1))) z.2) (hr9 : ∀ (l0 : Nat) (m : ab_Mm) (z : (Int32 × ab_Mm)), r9 l0 m = some z → ab_W l g cX12_term RX12 2 (some .boolean) [] false (d2 + 1) (.inl (some (.int z.1))) z.2 9 [(0, .ref l0)] [] m) (l0 : Nat) (m0 : ab_Mm) (z : (Int32 × ab_Mm)) (h : bb_X12_term_27 c_X12_factor c_X12_sum c_X12_term r9 l0 m0 = some z) : ab_W l g cX12_term RX12 2 (some .boolean) [] false (d2 + 1) (.inl (some (.int z.1))) z.2 27 [(0, .ref l0)] [] m0 := by
  unfold bb_X12_term_27 at h
  refine ru_aload_n (i := 0) dX12_term_27 rfl rfl <| ?_
  refine ru_getI h dX12_term_28 lk_X12_114 ?_
  intro v1 h
  refine ru_bipush dX12_term_31 kc_b_42 <| ?_
  refine ru_icmp_ne (tgt := 41) dX12_term_33 (by decide) (fun hc => ?_) (fun hc => ?_)
  · rw [if_neg hc] at h
    refine ru_bipush dX12_term_41 kc_b_m4 <| ?_
    exact ru_pick [0] rfl (tbb_X12_term_43 hl0 hd _ _ _ _ hc_X12_factor hc_X12_sum hc_X12_term hr9 _ _ _ _ h)
  · rw [if_pos hc] at h
    refine ru_bipush dX12_term_36 kc_b_m3 <| ru_goto (tgt := 43) dX12_term_38 (by decide) <| ?_
    exact ru_pick [0] rfl (tbb_X12_term_43 hl0 hd _ _ _ _ hc_X12_factor hc_X12_sum hc_X12_term hr9 _ _ _ _ h)
theorem tbb_X12_term_9 {l : Launch} {g : ab_G} (hl0 : l.stackTraces = false) {d2 : Nat} (hd : 7 ≤ d2 + 1) (c_X12_factor : Nat → ab_Mm → Option (Int32 × ab_Mm)) (c_X12_sum : Nat → ab_Mm → Option (Int32 × ab_Mm)) (c_X12_term : Nat → ab_Mm → Option (Int32 × ab_Mm)) (hc_X12_factor : ∀ (a0 : Nat) (m : ab_Mm) (z : (Int32 × ab_Mm)), c_X12_factor a0 m = some z → ab_Met l g yX12_factor cX12_factor 2 (some .boolean) [] d2 [.ref a0] m (.inl (some (.int z.1))) z.2) (hc_X12_sum : ∀ (a0 : Nat) (m : ab_Mm) (z : (Int32 × ab_Mm)), c_X12_sum a0 m = some z → ab_Met l g yX12_sum cX12_sum 2 (some .boolean) [] d2 [.ref a0] m (.inl (some (.int z.1))) z.2) (hc_X12_term : ∀ (a0 : Nat) (m : ab_Mm) (z : (Int32 × ab_Mm)), c_X12_term a0 m = some z → ab_Met l g yX12_term cX12_term 2 (some .boolean) [] d2 [.ref a0] m (.inl (some (.int z.1))) z.2) : ∀ (n : Nat) (l0 : Nat) (m0 : ab_Mm) (z : (Int32 × ab_Mm)), bb_X12_term_9 c_X12_factor c_X12_sum c_X12_term n l0 m0 = some z → ab_W l g cX12_term RX12 2 (some .boolean) [] false (d2 + 1) (.inl (some (.int z.1))) z.2 9 [(0, .ref l0)] [] m0 := by
  intro n
  induction n with
  | zero => intro l0 m0 z h; cases h
  | succ n ih =>
    intro l0 m0 z h
    rw [bb_X12_term_9] at h
    refine ru_aload_n (i := 0) dX12_term_9 rfl rfl <| ru_bipush dX12_term_10 kc_b_42 <| ?_
    obtain ⟨_, hrc, h⟩ := Option.bind_eq_some_iff.mp h
    obtain ⟨q1, hq1, h⟩ := Option.bind_eq_some_iff.mp h
    refine ru_callV (tm_X12_isSignHere hl0 (by omega) hq1) dX12_term_12 rfl pm_X12_170 mf_X12_isSignHere (ab_rcv_of hrc rfl) rfl rfl (Nat.le_of_ble_eq_true rfl) ?_
    refine ru_if_ne (tgt := 27) dX12_term_15 (by decide) (fun hc => ?_) (fun hc => ?_)
    · rw [if_neg hc] at h
      exact ru_pick [0] rfl (tbb_X12_term_27 hl0 hd _ _ _ _ hc_X12_factor hc_X12_sum hc_X12_term ih _ _ _ h)
    · rw [if_pos hc] at h
      refine ru_aload_n (i := 0) dX12_term_18 rfl rfl <| ru_bipush dX12_term_19 kc_b_47 <| ?_
      obtain ⟨_, hrc, h⟩ := Option.bind_eq_some_iff.mp h
      obtain ⟨q2, hq2, h⟩ := Option.bind_eq_some_iff.mp h
      refine ru_callV (tm_X12_isSignHere hl0 (by omega) hq2) dX12_term_21 rfl pm_X12_170 mf_X12_isSignHere (ab_rcv_of hrc rfl) rfl rfl (Nat.le_of_ble_eq_true rfl) ?_
      refine ru_if_eq (tgt := 66) dX12_term_24 (by decide) (fun hc => ?_) (fun hc => ?_)
      · rw [if_pos hc] at h
        refine ru_iconst dX12_term_66 kc_i_1 <| ?_
        cases h
        exact ru_ret (v := some (.int _)) ⟨_, rfl, ab_nz1, dX12_term_67⟩
      · rw [if_neg hc] at h
        exact ru_pick [0] rfl (tbb_X12_term_27 hl0 hd _ _ _ _ hc_X12_factor hc_X12_sum hc_X12_term ih _ _ _ h)
theorem te_X12_term {l : Launch} {g : ab_G} (hl0 : l.stackTraces = false) {d2 : Nat} (hd : 7 ≤ d2 + 1) (c_X12_factor : Nat → ab_Mm → Option (Int32 × ab_Mm)) (c_X12_sum : Nat → ab_Mm → Option (Int32 × ab_Mm)) (c_X12_term : Nat → ab_Mm → Option (Int32 × ab_Mm)) (hc_X12_factor : ∀ (a0 : Nat) (m : ab_Mm) (z : (Int32 × ab_Mm)), c_X12_factor a0 m = some z → ab_Met l g yX12_factor cX12_factor 2 (some .boolean) [] d2 [.ref a0] m (.inl (some (.int z.1))) z.2) (hc_X12_sum : ∀ (a0 : Nat) (m : ab_Mm) (z : (Int32 × ab_Mm)), c_X12_sum a0 m = some z → ab_Met l g yX12_sum cX12_sum 2 (some .boolean) [] d2 [.ref a0] m (.inl (some (.int z.1))) z.2) (hc_X12_term : ∀ (a0 : Nat) (m : ab_Mm) (z : (Int32 × ab_Mm)), c_X12_term a0 m = some z → ab_Met l g yX12_term cX12_term 2 (some .boolean) [] d2 [.ref a0] m (.inl (some (.int z.1))) z.2) (l0 : Nat) (m0 : ab_Mm) (z : (Int32 × ab_Mm)) (h : st_X12_term c_X12_factor c_X12_sum c_X12_term l0 m0 = some z) : ab_W l g cX12_term RX12 2 (some .boolean) [] false (d2 + 1) (.inl (some (.int z.1))) z.2 0 [(0, .ref l0)] [] m0 := by
  unfold st_X12_term at h
  refine ru_aload_n (i := 0) dX12_term_0 rfl rfl <| ?_
  obtain ⟨_, hrc, h⟩ := Option.bind_eq_some_iff.mp h
  obtain ⟨q1, hq1, h⟩ := Option.bind_eq_some_iff.mp h
  refine ru_callV (hc_X12_factor _ _ _ hq1) dX12_term_1 rfl pm_X12_223 mf_X12_factor (ab_rcv_of hrc rfl) rfl rfl (Nat.le_of_ble_eq_true rfl) ?_
  refine ru_if_ne (tgt := 9) dX12_term_4 (by decide) (fun hc => ?_) (fun hc => ?_)
  · rw [if_neg hc] at h
    exact ru_pick [0] rfl (tbb_X12_term_9 hl0 hd _ _ _ hc_X12_factor hc_X12_sum hc_X12_term _ _ _ _ h)
  · rw [if_pos hc] at h
    refine ru_iconst dX12_term_7 kc_i_0 <| ?_
    cases h
    exact ru_ret (v := some (.int _)) ⟨_, rfl, ab_nz0, dX12_term_8⟩
theorem tg_X12_factor {l : Launch} {g : ab_G} (hl0 : l.stackTraces = false) : ∀ n : Nat, (∀ d, n + 7 ≤ d → ∀ (a0 : Nat) (m : ab_Mm) (z : (Int32 × ab_Mm)), dd_X12_factor n a0 m = some z → ab_Met l g yX12_factor cX12_factor 2 (some .boolean) [] d [.ref a0] m (.inl (some (.int z.1))) z.2) ∧ (∀ d, n + 7 ≤ d → ∀ (a0 : Nat) (m : ab_Mm) (z : (Int32 × ab_Mm)), dd_X12_sum n a0 m = some z → ab_Met l g yX12_sum cX12_sum 2 (some .boolean) [] d [.ref a0] m (.inl (some (.int z.1))) z.2) ∧ (∀ d, n + 7 ≤ d → ∀ (a0 : Nat) (m : ab_Mm) (z : (Int32 × ab_Mm)), dd_X12_term n a0 m = some z → ab_Met l g yX12_term cX12_term 2 (some .boolean) [] d [.ref a0] m (.inl (some (.int z.1))) z.2) := by
  intro n
  induction n with
  | zero => exact ⟨fun d hd _ m z h => (by cases h), fun d hd _ m z h => (by cases h), fun d hd _ m z h => (by cases h)⟩
  | succ n ih =>
    refine ⟨?_, ?_, ?_⟩
    · intro d hd a0 m z h
      obtain ⟨d2, rfl⟩ : ∃ d2, d = d2 + 1 := ⟨d - 1, by omega⟩
      exact ab_of hl0 (by decide +kernel) (Nat.le_of_ble_eq_true rfl) (fun q => by cases q) rfl (te_X12_factor hl0 (by omega) _ _ _ (fun b0 m z h => ih.1 d2 (by omega) b0 m z h) (fun b0 m z h => ih.2.1 d2 (by omega) b0 m z h) (fun b0 m z h => ih.2.2 d2 (by omega) b0 m z h) _ _ _ h)
    · intro d hd a0 m z h
      obtain ⟨d2, rfl⟩ : ∃ d2, d = d2 + 1 := ⟨d - 1, by omega⟩
      exact ab_of hl0 (by decide +kernel) (Nat.le_of_ble_eq_true rfl) (fun q => by cases q) rfl (te_X12_sum hl0 (by omega) _ _ _ (fun b0 m z h => ih.1 d2 (by omega) b0 m z h) (fun b0 m z h => ih.2.1 d2 (by omega) b0 m z h) (fun b0 m z h => ih.2.2 d2 (by omega) b0 m z h) _ _ _ h)
    · intro d hd a0 m z h
      obtain ⟨d2, rfl⟩ : ∃ d2, d = d2 + 1 := ⟨d - 1, by omega⟩
      exact ab_of hl0 (by decide +kernel) (Nat.le_of_ble_eq_true rfl) (fun q => by cases q) rfl (te_X12_term hl0 (by omega) _ _ _ (fun b0 m z h => ih.1 d2 (by omega) b0 m z h) (fun b0 m z h => ih.2.1 d2 (by omega) b0 m z h) (fun b0 m z h => ih.2.2 d2 (by omega) b0 m z h) _ _ _ h)
theorem tm_X12_factor {l : Launch} {g : ab_G} (hl0 : l.stackTraces = false) {d : Nat} (hd : 37 ≤ d) {a0 : Nat} {m : ab_Mm} {z : (Int32 × ab_Mm)} (h : dd_X12_factor 30 a0 m = some z) : ab_Met l g yX12_factor cX12_factor 2 (some .boolean) [] d [.ref a0] m (.inl (some (.int z.1))) z.2 := (tg_X12_factor hl0 30).1 d (by omega) a0 m z h
theorem tm_X12_sum {l : Launch} {g : ab_G} (hl0 : l.stackTraces = false) {d : Nat} (hd : 37 ≤ d) {a0 : Nat} {m : ab_Mm} {z : (Int32 × ab_Mm)} (h : dd_X12_sum 30 a0 m = some z) : ab_Met l g yX12_sum cX12_sum 2 (some .boolean) [] d [.ref a0] m (.inl (some (.int z.1))) z.2 := (tg_X12_factor hl0 30).2.1 d (by omega) a0 m z h
theorem tm_X12_term {l : Launch} {g : ab_G} (hl0 : l.stackTraces = false) {d : Nat} (hd : 37 ≤ d) {a0 : Nat} {m : ab_Mm} {z : (Int32 × ab_Mm)} (h : dd_X12_term 30 a0 m = some z) : ab_Met l g yX12_term cX12_term 2 (some .boolean) [] d [.ref a0] m (.inl (some (.int z.1))) z.2 := (tg_X12_factor hl0 30).2.2 d (by omega) a0 m z h
theorem tbb_X12_statement_426 {l : Launch} {g : ab_G} (hl0 : l.stackTraces = false) {d2 : Nat} (hd : 38 ≤ d2 + 1)   (s0 : Int32) (m0 : ab_Mm) (z : (Int32 × ab_Mm)) (h : bb_X12_statement_426  s0 m0 = some z) : ab_W l g cX12_statement RX12 2 (some .boolean) [] false (d2 + 1) (.inl (some (.int z.1))) z.2 426 [] [.int s0] m0 := by
  unfold bb_X12_statement_426 at h
  rcases ab_iff h with ⟨hc, h⟩ | ⟨hc, h⟩
  · cases h
  cases h
  exact ru_ret (v := some (.int _)) ⟨_, rfl, congrArg Value.int (Classical.not_not.mp hc), dX12_statement_426⟩
theorem tbb_X12_statement_425 {l : Launch} {g : ab_G} (hl0 : l.stackTraces = false) {d2 : Nat} (hd : 38 ≤ d2 + 1)    (m0 : ab_Mm) (z : (Int32 × ab_Mm)) (h : bb_X12_statement_425   m0 = some z) : ab_W l g cX12_statement RX12 2 (some .boolean) [] false (d2 + 1) (.inl (some (.int z.1))) z.2 425 [] [] m0 := by
  unfold bb_X12_statement_425 at h
  refine ru_iconst dX12_statement_425 kc_i_0 <| ?_
  exact ru_pick [] rfl (tbb_X12_statement_426 hl0 hd   _ _ _ h)
theorem tbb_X12_statement_378 {l : Launch} {g : ab_G} (hl0 : l.stackTraces = false) {d2 : Nat} (hd : 38 ≤ d2 + 1)   (s0 : Int32) (m0 : ab_Mm) (z : (Int32 × ab_Mm)) (h : bb_X12_statement_378  s0 m0 = some z) : ab_W l g cX12_statement RX12 2 (some .boolean) [] false (d2 + 1) (.inl (some (.int z.1))) z.2 378 [] [.int s0] m0 := by
  unfold bb_X12_statement_378 at h
  rcases ab_iff h with ⟨hc, h⟩ | ⟨hc, h⟩
  · cases h
  cases h
  exact ru_ret (v := some (.int _)) ⟨_, rfl, congrArg Value.int (Classical.not_not.mp hc), dX12_statement_378⟩
theorem tbb_X12_statement_377 {l : Launch} {g : ab_G} (hl0 : l.stackTraces = false) {d2 : Nat} (hd : 38 ≤ d2 + 1)    (m0 : ab_Mm) (z : (Int32 × ab_Mm)) (h : bb_X12_statement_377   m0 = some z) : ab_W l g cX12_statement RX12 2 (some .boolean) [] false (d2 + 1) (.inl (some (.int z.1))) z.2 377 [] [] m0 := by
  unfold bb_X12_statement_377 at h
  refine ru_iconst dX12_statement_377 kc_i_0 <| ?_
  exact ru_pick [] rfl (tbb_X12_statement_378 hl0 hd   _ _ _ h)
theorem tbb_X12_statement_342 {l : Launch} {g : ab_G} (hl0 : l.stackTraces = false) {d2 : Nat} (hd : 38 ≤ d2 + 1)   (s0 : Int32) (m0 : ab_Mm) (z : (Int32 × ab_Mm)) (h : bb_X12_statement_342  s0 m0 = some z) : ab_W l g cX12_statement RX12 2 (some .boolean) [] false (d2 + 1) (.inl (some (.int z.1))) z.2 342 [] [.int s0] m0 := by
  unfold bb_X12_statement_342 at h
  rcases ab_iff h with ⟨hc, h⟩ | ⟨hc, h⟩
  · cases h
  cases h
  exact ru_ret (v := some (.int _)) ⟨_, rfl, congrArg Value.int (Classical.not_not.mp hc), dX12_statement_342⟩
theorem tbb_X12_statement_341 {l : Launch} {g : ab_G} (hl0 : l.stackTraces = false) {d2 : Nat} (hd : 38 ≤ d2 + 1)    (m0 : ab_Mm) (z : (Int32 × ab_Mm)) (h : bb_X12_statement_341   m0 = some z) : ab_W l g cX12_statement RX12 2 (some .boolean) [] false (d2 + 1) (.inl (some (.int z.1))) z.2 341 [] [] m0 := by
  unfold bb_X12_statement_341 at h
  refine ru_iconst dX12_statement_341 kc_i_0 <| ?_
  exact ru_pick [] rfl (tbb_X12_statement_342 hl0 hd   _ _ _ h)
theorem tbb_X12_statement_308 {l : Launch} {g : ab_G} (hl0 : l.stackTraces = false) {d2 : Nat} (hd : 38 ≤ d2 + 1)   (s0 : Int32) (m0 : ab_Mm) (z : (Int32 × ab_Mm)) (h : bb_X12_statement_308  s0 m0 = some z) : ab_W l g cX12_statement RX12 2 (some .boolean) [] false (d2 + 1) (.inl (some (.int z.1))) z.2 308 [] [.int s0] m0 := by
  unfold bb_X12_statement_308 at h
  rcases ab_iff h with ⟨hc, h⟩ | ⟨hc, h⟩
  · cases h
  cases h
  exact ru_ret (v := some (.int _)) ⟨_, rfl, congrArg Value.int (Classical.not_not.mp hc), dX12_statement_308⟩
theorem tbb_X12_statement_307 {l : Launch} {g : ab_G} (hl0 : l.stackTraces = false) {d2 : Nat} (hd : 38 ≤ d2 + 1)    (m0 : ab_Mm) (z : (Int32 × ab_Mm)) (h : bb_X12_statement_307   m0 = some z) : ab_W l g cX12_statement RX12 2 (some .boolean) [] false (d2 + 1) (.inl (some (.int z.1))) z.2 307 [] [] m0 := by
  unfold bb_X12_statement_307 at h
  refine ru_iconst dX12_statement_307 kc_i_0 <| ?_
  exact ru_pick [] rfl (tbb_X12_statement_308 hl0 hd   _ _ _ h)
theorem tbb_X12_statement_274 {l : Launch} {g : ab_G} (hl0 : l.stackTraces = false) {d2 : Nat} (hd : 38 ≤ d2 + 1)   (s0 : Int32) (m0 : ab_Mm) (z : (Int32 × ab_Mm)) (h : bb_X12_statement_274  s0 m0 = some z) : ab_W l g cX12_statement RX12 2 (some .boolean) [] false (d2 + 1) (.inl (some (.int z.1))) z.2 274 [] [.int s0] m0 := by
  unfold bb_X12_statement_274 at h
  rcases ab_iff h with ⟨hc, h⟩ | ⟨hc, h⟩
  · cases h
  cases h
  exact ru_ret (v := some (.int _)) ⟨_, rfl, congrArg Value.int (Classical.not_not.mp hc), dX12_statement_274⟩
theorem tbb_X12_statement_273 {l : Launch} {g : ab_G} (hl0 : l.stackTraces = false) {d2 : Nat} (hd : 38 ≤ d2 + 1)    (m0 : ab_Mm) (z : (Int32 × ab_Mm)) (h : bb_X12_statement_273   m0 = some z) : ab_W l g cX12_statement RX12 2 (some .boolean) [] false (d2 + 1) (.inl (some (.int z.1))) z.2 273 [] [] m0 := by
  unfold bb_X12_statement_273 at h
  refine ru_iconst dX12_statement_273 kc_i_0 <| ?_
  exact ru_pick [] rfl (tbb_X12_statement_274 hl0 hd   _ _ _ h)
theorem tbb_X12_statement_224 {l : Launch} {g : ab_G} (hl0 : l.stackTraces = false) {d2 : Nat} (hd : 38 ≤ d2 + 1)   (s0 : Int32) (m0 : ab_Mm) (z : (Int32 × ab_Mm)) (h : bb_X12_statement_224  s0 m0 = some z) : ab_W l g cX12_statement RX12 2 (some .boolean) [] false (d2 + 1) (.inl (some (.int z.1))) z.2 224 [] [.int s0] m0 := by
  unfold bb_X12_statement_224 at h
  rcases ab_iff h with ⟨hc, h⟩ | ⟨hc, h⟩
  · cases h
  cases h
  exact ru_ret (v := some (.int _)) ⟨_, rfl, congrArg Value.int (Classical.not_not.mp hc), dX12_statement_224⟩
theorem tbb_X12_statement_223 {l : Launch} {g : ab_G} (hl0 : l.stackTraces = false) {d2 : Nat} (hd : 38 ≤ d2 + 1)    (m0 : ab_Mm) (z : (Int32 × ab_Mm)) (h : bb_X12_statement_223   m0 = some z) : ab_W l g cX12_statement RX12 2 (some .boolean) [] false (d2 + 1) (.inl (some (.int z.1))) z.2 223 [] [] m0 := by
  unfold bb_X12_statement_223 at h
  refine ru_iconst dX12_statement_223 kc_i_0 <| ?_
  exact ru_pick [] rfl (tbb_X12_statement_224 hl0 hd   _ _ _ h)
theorem tbb_X12_statement_169 {l : Launch} {g : ab_G} (hl0 : l.stackTraces = false) {d2 : Nat} (hd : 38 ≤ d2 + 1)   (s0 : Int32) (m0 : ab_Mm) (z : (Int32 × ab_Mm)) (h : bb_X12_statement_169  s0 m0 = some z) : ab_W l g cX12_statement RX12 2 (some .boolean) [] false (d2 + 1) (.inl (some (.int z.1))) z.2 169 [] [.int s0] m0 := by
  unfold bb_X12_statement_169 at h
  rcases ab_iff h with ⟨hc, h⟩ | ⟨hc, h⟩
  · cases h
  cases h
  exact ru_ret (v := some (.int _)) ⟨_, rfl, congrArg Value.int (Classical.not_not.mp hc), dX12_statement_169⟩
theorem tbb_X12_statement_168 {l : Launch} {g : ab_G} (hl0 : l.stackTraces = false) {d2 : Nat} (hd : 38 ≤ d2 + 1)    (m0 : ab_Mm) (z : (Int32 × ab_Mm)) (h : bb_X12_statement_168   m0 = some z) : ab_W l g cX12_statement RX12 2 (some .boolean) [] false (d2 + 1) (.inl (some (.int z.1))) z.2 168 [] [] m0 := by
  unfold bb_X12_statement_168 at h
  refine ru_iconst dX12_statement_168 kc_i_0 <| ?_
  exact ru_pick [] rfl (tbb_X12_statement_169 hl0 hd   _ _ _ h)
theorem tbb_X12_statement_75 {l : Launch} {g : ab_G} (hl0 : l.stackTraces = false) {d2 : Nat} (hd : 38 ≤ d2 + 1)   (s0 : Int32) (m0 : ab_Mm) (z : (Int32 × ab_Mm)) (h : bb_X12_statement_75  s0 m0 = some z) : ab_W l g cX12_statement RX12 2 (some .boolean) [] false (d2 + 1) (.inl (some (.int z.1))) z.2 75 [] [.int s0] m0 := by
  unfold bb_X12_statement_75 at h
  rcases ab_iff h with ⟨hc, h⟩ | ⟨hc, h⟩
  · cases h
  cases h
  exact ru_ret (v := some (.int _)) ⟨_, rfl, congrArg Value.int (Classical.not_not.mp hc), dX12_statement_75⟩
theorem tbb_X12_statement_74 {l : Launch} {g : ab_G} (hl0 : l.stackTraces = false) {d2 : Nat} (hd : 38 ≤ d2 + 1)    (m0 : ab_Mm) (z : (Int32 × ab_Mm)) (h : bb_X12_statement_74   m0 = some z) : ab_W l g cX12_statement RX12 2 (some .boolean) [] false (d2 + 1) (.inl (some (.int z.1))) z.2 74 [] [] m0 := by
  unfold bb_X12_statement_74 at h
  refine ru_iconst dX12_statement_74 kc_i_0 <| ?_
  exact ru_pick [] rfl (tbb_X12_statement_75 hl0 hd   _ _ _ h)
theorem te_X12_statement {l : Launch} {g : ab_G} (hl0 : l.stackTraces = false) {d2 : Nat} (hd : 38 ≤ d2 + 1)   (l0 : Nat) (m0 : ab_Mm) (z : (Int32 × ab_Mm)) (h : dd_X12_statement  l0 m0 = some z) : ab_W l g cX12_statement RX12 2 (some .boolean) [] false (d2 + 1) (.inl (some (.int z.1))) z.2 0 [(0, .ref l0)] [] m0 := by
  unfold dd_X12_statement at h
  refine ru_aload_n (i := 0) dX12_statement_0 rfl rfl <| ru_ldcS (i := 12) (tx := "host") dX12_statement_1 (by decide +kernel) <| ?_
  obtain ⟨_, hrc, h⟩ := Option.bind_eq_some_iff.mp h
  obtain ⟨q1, hq1, h⟩ := Option.bind_eq_some_iff.mp h
  refine ru_callV (tm_X12_isWord hl0 (by omega) hq1) dX12_statement_3 rfl pm_X12_179 mf_X12_isWord (ab_rcv_of hrc rfl) rfl rfl (Nat.le_of_ble_eq_true rfl) ?_
  refine ru_if_eq (tgt := 76) dX12_statement_6 (by decide) (fun hc => ?_) (fun hc => ?_)
  · rw [if_pos hc] at h
    refine ru_aload_n (i := 0) dX12_statement_76 rfl rfl <| ru_ldcS (i := 13) (tx := "type") dX12_statement_77 (by decide +kernel) <| ?_
    obtain ⟨_, hrc, h⟩ := Option.bind_eq_some_iff.mp h
    obtain ⟨q2, hq2, h⟩ := Option.bind_eq_some_iff.mp h
    refine ru_callV (tm_X12_isWord hl0 (by omega) hq2) dX12_statement_79 rfl pm_X12_179 mf_X12_isWord (ab_rcv_of hrc rfl) rfl rfl (Nat.le_of_ble_eq_true rfl) ?_
    refine ru_if_eq (tgt := 170) dX12_statement_82 (by decide) (fun hc => ?_) (fun hc => ?_)
    · rw [if_pos hc] at h
      refine ru_aload_n (i := 0) dX12_statement_170 rfl rfl <| ru_ldcS (i := 14) (tx := "tenant") dX12_statement_171 (by decide +kernel) <| ?_
      obtain ⟨_, hrc, h⟩ := Option.bind_eq_some_iff.mp h
      obtain ⟨q3, hq3, h⟩ := Option.bind_eq_some_iff.mp h
      refine ru_callV (tm_X12_isWord hl0 (by omega) hq3) dX12_statement_173 rfl pm_X12_179 mf_X12_isWord (ab_rcv_of hrc rfl) rfl rfl (Nat.le_of_ble_eq_true rfl) ?_
      refine ru_if_eq (tgt := 225) dX12_statement_176 (by decide) (fun hc => ?_) (fun hc => ?_)
      · rw [if_pos hc] at h
        refine ru_aload_n (i := 0) dX12_statement_225 rfl rfl <| ru_ldcS (i := 15) (tx := "reserve") dX12_statement_226 (by decide +kernel) <| ?_
        obtain ⟨_, hrc, h⟩ := Option.bind_eq_some_iff.mp h
        obtain ⟨q4, hq4, h⟩ := Option.bind_eq_some_iff.mp h
        refine ru_callV (tm_X12_isWord hl0 (by omega) hq4) dX12_statement_228 rfl pm_X12_179 mf_X12_isWord (ab_rcv_of hrc rfl) rfl rfl (Nat.le_of_ble_eq_true rfl) ?_
        refine ru_if_eq (tgt := 275) dX12_statement_231 (by decide) (fun hc => ?_) (fun hc => ?_)
        · rw [if_pos hc] at h
          refine ru_aload_n (i := 0) dX12_statement_275 rfl rfl <| ru_ldcS (i := 16) (tx := "floor") dX12_statement_276 (by decide +kernel) <| ?_
          obtain ⟨_, hrc, h⟩ := Option.bind_eq_some_iff.mp h
          obtain ⟨q5, hq5, h⟩ := Option.bind_eq_some_iff.mp h
          refine ru_callV (tm_X12_isWord hl0 (by omega) hq5) dX12_statement_278 rfl pm_X12_179 mf_X12_isWord (ab_rcv_of hrc rfl) rfl rfl (Nat.le_of_ble_eq_true rfl) ?_
          refine ru_if_eq (tgt := 309) dX12_statement_281 (by decide) (fun hc => ?_) (fun hc => ?_)
          · rw [if_pos hc] at h
            refine ru_aload_n (i := 0) dX12_statement_309 rfl rfl <| ru_ldcS (i := 17) (tx := "notice") dX12_statement_310 (by decide +kernel) <| ?_
            obtain ⟨_, hrc, h⟩ := Option.bind_eq_some_iff.mp h
            obtain ⟨q6, hq6, h⟩ := Option.bind_eq_some_iff.mp h
            refine ru_callV (tm_X12_isWord hl0 (by omega) hq6) dX12_statement_312 rfl pm_X12_179 mf_X12_isWord (ab_rcv_of hrc rfl) rfl rfl (Nat.le_of_ble_eq_true rfl) ?_
            refine ru_if_eq (tgt := 343) dX12_statement_315 (by decide) (fun hc => ?_) (fun hc => ?_)
            · rw [if_pos hc] at h
              refine ru_aload_n (i := 0) dX12_statement_343 rfl rfl <| ru_ldcS (i := 18) (tx := "slope") dX12_statement_344 (by decide +kernel) <| ?_
              obtain ⟨_, hrc, h⟩ := Option.bind_eq_some_iff.mp h
              obtain ⟨q7, hq7, h⟩ := Option.bind_eq_some_iff.mp h
              refine ru_callV (tm_X12_isWord hl0 (by omega) hq7) dX12_statement_346 rfl pm_X12_179 mf_X12_isWord (ab_rcv_of hrc rfl) rfl rfl (Nat.le_of_ble_eq_true rfl) ?_
              refine ru_if_eq (tgt := 379) dX12_statement_349 (by decide) (fun hc => ?_) (fun hc => ?_)
              · rw [if_pos hc] at h
                refine ru_aload_n (i := 0) dX12_statement_379 rfl rfl <| ru_ldcS (i := 19) (tx := "move") dX12_statement_380 (by decide +kernel) <| ?_
                obtain ⟨_, hrc, h⟩ := Option.bind_eq_some_iff.mp h
                obtain ⟨q8, hq8, h⟩ := Option.bind_eq_some_iff.mp h
                refine ru_callV (tm_X12_isWord hl0 (by omega) hq8) dX12_statement_382 rfl pm_X12_179 mf_X12_isWord (ab_rcv_of hrc rfl) rfl rfl (Nat.le_of_ble_eq_true rfl) ?_
                refine ru_if_ne (tgt := 394) dX12_statement_385 (by decide) (fun hc => ?_) (fun hc => ?_)
                · rw [if_neg hc] at h
                  refine ru_aload_n (i := 0) dX12_statement_394 rfl rfl <| ?_
                  refine ru_getR h dX12_statement_395 lk_X12_29 ?_
                  intro v9 h
                  refine ru_iconst dX12_statement_398 kc_i_1 <| ru_iconst dX12_statement_399 kc_i_0 <| ?_
                  refine ru_iastore h dX12_statement_400 ?_
                  intro m10 h
                  refine ru_aload_n (i := 0) dX12_statement_401 rfl rfl <| ru_iconst dX12_statement_402 kc_i_0 <| ?_
                  refine ru_putI h dX12_statement_403 lk_X12_213 ?_
                  intro m11 h
                  refine ru_aload_n (i := 0) dX12_statement_406 rfl rfl <| ru_iconst dX12_statement_407 kc_i_3 <| ?_
                  obtain ⟨_, hrc, h⟩ := Option.bind_eq_some_iff.mp h
                  obtain ⟨q12, hq12, h⟩ := Option.bind_eq_some_iff.mp h
                  refine ru_callV (tm_X12_once hl0 (by omega) hq12) dX12_statement_408 rfl pm_X12_200 mf_X12_once (ab_rcv_of hrc rfl) rfl rfl (Nat.le_of_ble_eq_true rfl) ?_
                  refine ru_if_eq (tgt := 425) dX12_statement_411 (by decide) (fun hc => ?_) (fun hc => ?_)
                  · rw [if_pos hc] at h
                    exact ru_pick [] rfl (tbb_X12_statement_425 hl0 hd    _ _ h)
                  · rw [if_neg hc] at h
                    refine ru_aload_n (i := 0) dX12_statement_414 rfl rfl <| ?_
                    obtain ⟨_, hrc, h⟩ := Option.bind_eq_some_iff.mp h
                    obtain ⟨q13, hq13, h⟩ := Option.bind_eq_some_iff.mp h
                    refine ru_callV (tm_X12_sum hl0 (by omega) hq13) dX12_statement_415 rfl pm_X12_216 mf_X12_sum (ab_rcv_of hrc rfl) rfl rfl (Nat.le_of_ble_eq_true rfl) ?_
                    refine ru_if_eq (tgt := 425) dX12_statement_418 (by decide) (fun hc => ?_) (fun hc => ?_)
                    · rw [if_pos hc] at h
                      exact ru_pick [] rfl (tbb_X12_statement_425 hl0 hd    _ _ h)
                    · rw [if_neg hc] at h
                      refine ru_iconst dX12_statement_421 kc_i_1 <| ru_goto (tgt := 426) dX12_statement_422 (by decide) <| ?_
                      exact ru_pick [] rfl (tbb_X12_statement_426 hl0 hd   _ _ _ h)
                · rw [if_pos hc] at h
                  refine ru_aload_n (i := 0) dX12_statement_388 rfl rfl <| ru_iconst dX12_statement_389 kc_i_1 <| ?_
                  obtain ⟨_, hrc, h⟩ := Option.bind_eq_some_iff.mp h
                  obtain ⟨q14, hq14, h⟩ := Option.bind_eq_some_iff.mp h
                  refine ru_callV (tm_X12_fails hl0 (by omega) hq14) dX12_statement_390 rfl pm_X12_147 mf_X12_fails (ab_rcv_of hrc rfl) rfl rfl (Nat.le_of_ble_eq_true rfl) ?_
                  rcases ab_iff h with ⟨hc, h⟩ | ⟨hc, h⟩
                  · cases h
                  cases h
                  exact ru_ret (v := some (.int _)) ⟨_, rfl, congrArg Value.int (Classical.not_not.mp hc), dX12_statement_393⟩
              · rw [if_neg hc] at h
                refine ru_aload_n (i := 0) dX12_statement_352 rfl rfl <| ru_iconst dX12_statement_353 kc_i_2 <| ?_
                obtain ⟨_, hrc, h⟩ := Option.bind_eq_some_iff.mp h
                obtain ⟨q15, hq15, h⟩ := Option.bind_eq_some_iff.mp h
                refine ru_callV (tm_X12_once hl0 (by omega) hq15) dX12_statement_354 rfl pm_X12_200 mf_X12_once (ab_rcv_of hrc rfl) rfl rfl (Nat.le_of_ble_eq_true rfl) ?_
                refine ru_if_eq (tgt := 377) dX12_statement_357 (by decide) (fun hc => ?_) (fun hc => ?_)
                · rw [if_pos hc] at h
                  exact ru_pick [] rfl (tbb_X12_statement_377 hl0 hd    _ _ h)
                · rw [if_neg hc] at h
                  refine ru_aload_n (i := 0) dX12_statement_360 rfl rfl <| ru_bipush dX12_statement_361 kc_b_6 <| ru_iconst dX12_statement_363 kc_i_0 <| ru_sipush dX12_statement_364 kc_s_400 <| ?_
                  obtain ⟨_, hrc, h⟩ := Option.bind_eq_some_iff.mp h
                  obtain ⟨q16, hq16, h⟩ := Option.bind_eq_some_iff.mp h
                  refine ru_callV (tm_X12_sets hl0 (by omega) hq16) dX12_statement_367 rfl pm_X12_203 mf_X12_sets (ab_rcv_of hrc rfl) rfl rfl (Nat.le_of_ble_eq_true rfl) ?_
                  refine ru_if_eq (tgt := 377) dX12_statement_370 (by decide) (fun hc => ?_) (fun hc => ?_)
                  · rw [if_pos hc] at h
                    exact ru_pick [] rfl (tbb_X12_statement_377 hl0 hd    _ _ h)
                  · rw [if_neg hc] at h
                    refine ru_iconst dX12_statement_373 kc_i_1 <| ru_goto (tgt := 378) dX12_statement_374 (by decide) <| ?_
                    exact ru_pick [] rfl (tbb_X12_statement_378 hl0 hd   _ _ _ h)
            · rw [if_neg hc] at h
              refine ru_aload_n (i := 0) dX12_statement_318 rfl rfl <| ru_iconst dX12_statement_319 kc_i_1 <| ?_
              obtain ⟨_, hrc, h⟩ := Option.bind_eq_some_iff.mp h
              obtain ⟨q17, hq17, h⟩ := Option.bind_eq_some_iff.mp h
              refine ru_callV (tm_X12_once hl0 (by omega) hq17) dX12_statement_320 rfl pm_X12_200 mf_X12_once (ab_rcv_of hrc rfl) rfl rfl (Nat.le_of_ble_eq_true rfl) ?_
              refine ru_if_eq (tgt := 341) dX12_statement_323 (by decide) (fun hc => ?_) (fun hc => ?_)
              · rw [if_pos hc] at h
                exact ru_pick [] rfl (tbb_X12_statement_341 hl0 hd    _ _ h)
              · rw [if_neg hc] at h
                refine ru_aload_n (i := 0) dX12_statement_326 rfl rfl <| ru_iconst dX12_statement_327 kc_i_5 <| ru_iconst dX12_statement_328 kc_i_0 <| ru_bipush dX12_statement_329 kc_b_48 <| ?_
                obtain ⟨_, hrc, h⟩ := Option.bind_eq_some_iff.mp h
                obtain ⟨q18, hq18, h⟩ := Option.bind_eq_some_iff.mp h
                refine ru_callV (tm_X12_sets hl0 (by omega) hq18) dX12_statement_331 rfl pm_X12_203 mf_X12_sets (ab_rcv_of hrc rfl) rfl rfl (Nat.le_of_ble_eq_true rfl) ?_
                refine ru_if_eq (tgt := 341) dX12_statement_334 (by decide) (fun hc => ?_) (fun hc => ?_)
                · rw [if_pos hc] at h
                  exact ru_pick [] rfl (tbb_X12_statement_341 hl0 hd    _ _ h)
                · rw [if_neg hc] at h
                  refine ru_iconst dX12_statement_337 kc_i_1 <| ru_goto (tgt := 342) dX12_statement_338 (by decide) <| ?_
                  exact ru_pick [] rfl (tbb_X12_statement_342 hl0 hd   _ _ _ h)
          · rw [if_neg hc] at h
            refine ru_aload_n (i := 0) dX12_statement_284 rfl rfl <| ru_iconst dX12_statement_285 kc_i_0 <| ?_
            obtain ⟨_, hrc, h⟩ := Option.bind_eq_some_iff.mp h
            obtain ⟨q19, hq19, h⟩ := Option.bind_eq_some_iff.mp h
            refine ru_callV (tm_X12_once hl0 (by omega) hq19) dX12_statement_286 rfl pm_X12_200 mf_X12_once (ab_rcv_of hrc rfl) rfl rfl (Nat.le_of_ble_eq_true rfl) ?_
            refine ru_if_eq (tgt := 307) dX12_statement_289 (by decide) (fun hc => ?_) (fun hc => ?_)
            · rw [if_pos hc] at h
              exact ru_pick [] rfl (tbb_X12_statement_307 hl0 hd    _ _ h)
            · rw [if_neg hc] at h
              refine ru_aload_n (i := 0) dX12_statement_292 rfl rfl <| ru_iconst dX12_statement_293 kc_i_4 <| ru_iconst dX12_statement_294 kc_i_1 <| ru_bipush dX12_statement_295 kc_b_100 <| ?_
              obtain ⟨_, hrc, h⟩ := Option.bind_eq_some_iff.mp h
              obtain ⟨q20, hq20, h⟩ := Option.bind_eq_some_iff.mp h
              refine ru_callV (tm_X12_sets hl0 (by omega) hq20) dX12_statement_297 rfl pm_X12_203 mf_X12_sets (ab_rcv_of hrc rfl) rfl rfl (Nat.le_of_ble_eq_true rfl) ?_
              refine ru_if_eq (tgt := 307) dX12_statement_300 (by decide) (fun hc => ?_) (fun hc => ?_)
              · rw [if_pos hc] at h
                exact ru_pick [] rfl (tbb_X12_statement_307 hl0 hd    _ _ h)
              · rw [if_neg hc] at h
                refine ru_iconst dX12_statement_303 kc_i_1 <| ru_goto (tgt := 308) dX12_statement_304 (by decide) <| ?_
                exact ru_pick [] rfl (tbb_X12_statement_308 hl0 hd   _ _ _ h)
        · rw [if_neg hc] at h
          refine ru_aload_n (i := 0) dX12_statement_234 rfl rfl <| ru_iconst dX12_statement_235 kc_i_3 <| ru_bipush dX12_statement_236 kc_b_8 <| ?_
          obtain ⟨_, hrc, h⟩ := Option.bind_eq_some_iff.mp h
          obtain ⟨q21, hq21, h⟩ := Option.bind_eq_some_iff.mp h
          refine ru_callV (tm_X12_oneMore hl0 (by omega) hq21) dX12_statement_238 rfl pm_X12_183 mf_X12_oneMore (ab_rcv_of hrc rfl) rfl rfl (Nat.le_of_ble_eq_true rfl) ?_
          refine ru_if_eq (tgt := 273) dX12_statement_241 (by decide) (fun hc => ?_) (fun hc => ?_)
          · rw [if_pos hc] at h
            exact ru_pick [] rfl (tbb_X12_statement_273 hl0 hd    _ _ h)
          · rw [if_neg hc] at h
            refine ru_aload_n (i := 0) dX12_statement_244 rfl rfl <| ru_bipush dX12_statement_245 kc_b_6 <| ru_aload_n (i := 0) dX12_statement_247 rfl rfl <| ?_
            refine ru_getR h dX12_statement_248 lk_X12_13 ?_
            intro v22 h
            refine ru_bipush dX12_statement_251 kc_b_10 <| ?_
            refine ru_iaload h dX12_statement_253 ?_
            intro v23 h
            refine ru_imul dX12_statement_254 <| ?_
            obtain ⟨_, hrc, h⟩ := Option.bind_eq_some_iff.mp h
            obtain ⟨q24, hq24, h⟩ := Option.bind_eq_some_iff.mp h
            refine ru_callV (tm_X12_reserveLine hl0 (by omega) hq24) dX12_statement_255 rfl pm_X12_195 mf_X12_reserveLine (ab_rcv_of hrc rfl) rfl rfl (Nat.le_of_ble_eq_true rfl) ?_
            refine ru_if_eq (tgt := 273) dX12_statement_258 (by decide) (fun hc => ?_) (fun hc => ?_)
            · rw [if_pos hc] at h
              exact ru_pick [] rfl (tbb_X12_statement_273 hl0 hd    _ _ h)
            · rw [if_neg hc] at h
              refine ru_aload_n (i := 0) dX12_statement_261 rfl rfl <| ru_iconst dX12_statement_262 kc_i_3 <| ?_
              obtain ⟨_, hrc, h⟩ := Option.bind_eq_some_iff.mp h
              obtain ⟨q25, hq25, h⟩ := Option.bind_eq_some_iff.mp h
              refine ru_callV (tm_X12_counts hl0 (by omega) hq25) dX12_statement_263 rfl pm_X12_186 mf_X12_counts (ab_rcv_of hrc rfl) rfl rfl (Nat.le_of_ble_eq_true rfl) ?_
              refine ru_if_eq (tgt := 273) dX12_statement_266 (by decide) (fun hc => ?_) (fun hc => ?_)
              · rw [if_pos hc] at h
                exact ru_pick [] rfl (tbb_X12_statement_273 hl0 hd    _ _ h)
              · rw [if_neg hc] at h
                refine ru_iconst dX12_statement_269 kc_i_1 <| ru_goto (tgt := 274) dX12_statement_270 (by decide) <| ?_
                exact ru_pick [] rfl (tbb_X12_statement_274 hl0 hd   _ _ _ h)
      · rw [if_neg hc] at h
        refine ru_aload_n (i := 0) dX12_statement_179 rfl rfl <| ru_iconst dX12_statement_180 kc_i_2 <| ru_bipush dX12_statement_181 kc_b_6 <| ?_
        obtain ⟨_, hrc, h⟩ := Option.bind_eq_some_iff.mp h
        obtain ⟨q26, hq26, h⟩ := Option.bind_eq_some_iff.mp h
        refine ru_callV (tm_X12_oneMore hl0 (by omega) hq26) dX12_statement_183 rfl pm_X12_183 mf_X12_oneMore (ab_rcv_of hrc rfl) rfl rfl (Nat.le_of_ble_eq_true rfl) ?_
        refine ru_if_eq (tgt := 223) dX12_statement_186 (by decide) (fun hc => ?_) (fun hc => ?_)
        · rw [if_pos hc] at h
          exact ru_pick [] rfl (tbb_X12_statement_223 hl0 hd    _ _ h)
        · rw [if_neg hc] at h
          refine ru_aload_n (i := 0) dX12_statement_189 rfl rfl <| ru_aload_n (i := 0) dX12_statement_190 rfl rfl <| ?_
          refine ru_getR h dX12_statement_191 lk_X12_23 ?_
          intro v27 h
          refine ru_aload_n (i := 0) dX12_statement_194 rfl rfl <| ?_
          refine ru_getR h dX12_statement_195 lk_X12_13 ?_
          intro v28 h
          refine ru_bipush dX12_statement_198 kc_b_9 <| ?_
          refine ru_iaload h dX12_statement_200 ?_
          intro v29 h
          refine ru_iconst dX12_statement_201 kc_i_0 <| ru_sipush dX12_statement_202 kc_s_9999 <| ?_
          obtain ⟨_, hrc, h⟩ := Option.bind_eq_some_iff.mp h
          obtain ⟨q30, hq30, h⟩ := Option.bind_eq_some_iff.mp h
          refine ru_callV (tm_X12_lays hl0 (by omega) hq30) dX12_statement_205 rfl pm_X12_173 mf_X12_lays (ab_rcv_of hrc rfl) rfl rfl (Nat.le_of_ble_eq_true rfl) ?_
          refine ru_if_eq (tgt := 223) dX12_statement_208 (by decide) (fun hc => ?_) (fun hc => ?_)
          · rw [if_pos hc] at h
            exact ru_pick [] rfl (tbb_X12_statement_223 hl0 hd    _ _ h)
          · rw [if_neg hc] at h
            refine ru_aload_n (i := 0) dX12_statement_211 rfl rfl <| ru_iconst dX12_statement_212 kc_i_2 <| ?_
            obtain ⟨_, hrc, h⟩ := Option.bind_eq_some_iff.mp h
            obtain ⟨q31, hq31, h⟩ := Option.bind_eq_some_iff.mp h
            refine ru_callV (tm_X12_counts hl0 (by omega) hq31) dX12_statement_213 rfl pm_X12_186 mf_X12_counts (ab_rcv_of hrc rfl) rfl rfl (Nat.le_of_ble_eq_true rfl) ?_
            refine ru_if_eq (tgt := 223) dX12_statement_216 (by decide) (fun hc => ?_) (fun hc => ?_)
            · rw [if_pos hc] at h
              exact ru_pick [] rfl (tbb_X12_statement_223 hl0 hd    _ _ h)
            · rw [if_neg hc] at h
              refine ru_iconst dX12_statement_219 kc_i_1 <| ru_goto (tgt := 224) dX12_statement_220 (by decide) <| ?_
              exact ru_pick [] rfl (tbb_X12_statement_224 hl0 hd   _ _ _ h)
    · rw [if_neg hc] at h
      refine ru_iconst dX12_statement_85 kc_i_3 <| ru_aload_n (i := 0) dX12_statement_86 rfl rfl <| ?_
      refine ru_getR h dX12_statement_87 lk_X12_13 ?_
      intro v32 h
      refine ru_bipush dX12_statement_90 kc_b_8 <| ?_
      refine ru_iaload h dX12_statement_92 ?_
      intro v33 h
      refine ru_imul dX12_statement_93 <| ru_istore_n (i := 1) dX12_statement_94 rfl (by decide) <| ru_aload_n (i := 0) dX12_statement_95 rfl rfl <| ru_iconst dX12_statement_96 kc_i_1 <| ru_bipush dX12_statement_97 kc_b_6 <| ?_
      obtain ⟨_, hrc, h⟩ := Option.bind_eq_some_iff.mp h
      obtain ⟨q34, hq34, h⟩ := Option.bind_eq_some_iff.mp h
      refine ru_callV (tm_X12_oneMore hl0 (by omega) hq34) dX12_statement_99 rfl pm_X12_183 mf_X12_oneMore (ab_rcv_of hrc rfl) rfl rfl (Nat.le_of_ble_eq_true rfl) ?_
      refine ru_if_eq (tgt := 168) dX12_statement_102 (by decide) (fun hc => ?_) (fun hc => ?_)
      · rw [if_pos hc] at h
        exact ru_pick [] rfl (tbb_X12_statement_168 hl0 hd    _ _ h)
      · rw [if_neg hc] at h
        refine ru_aload_n (i := 0) dX12_statement_105 rfl rfl <| ru_aload_n (i := 0) dX12_statement_106 rfl rfl <| ?_
        refine ru_getR h dX12_statement_107 lk_X12_20 ?_
        intro v35 h
        refine ru_iload_n (i := 1) dX12_statement_110 rfl rfl <| ru_iconst dX12_statement_111 kc_i_1 <| ru_bipush dX12_statement_112 kc_b_64 <| ?_
        obtain ⟨_, hrc, h⟩ := Option.bind_eq_some_iff.mp h
        obtain ⟨q36, hq36, h⟩ := Option.bind_eq_some_iff.mp h
        refine ru_callV (tm_X12_lays hl0 (by omega) hq36) dX12_statement_114 rfl pm_X12_173 mf_X12_lays (ab_rcv_of hrc rfl) rfl rfl (Nat.le_of_ble_eq_true rfl) ?_
        refine ru_if_eq (tgt := 168) dX12_statement_117 (by decide) (fun hc => ?_) (fun hc => ?_)
        · rw [if_pos hc] at h
          exact ru_pick [] rfl (tbb_X12_statement_168 hl0 hd    _ _ h)
        · rw [if_neg hc] at h
          refine ru_aload_n (i := 0) dX12_statement_120 rfl rfl <| ru_aload_n (i := 0) dX12_statement_121 rfl rfl <| ?_
          refine ru_getR h dX12_statement_122 lk_X12_20 ?_
          intro v37 h
          refine ru_iload_n (i := 1) dX12_statement_125 rfl rfl <| ru_iconst dX12_statement_126 kc_i_1 <| ru_iadd dX12_statement_127 <| ru_iconst dX12_statement_128 kc_i_1 <| ru_sipush dX12_statement_129 kc_s_256 <| ?_
          obtain ⟨_, hrc, h⟩ := Option.bind_eq_some_iff.mp h
          obtain ⟨q38, hq38, h⟩ := Option.bind_eq_some_iff.mp h
          refine ru_callV (tm_X12_lays hl0 (by omega) hq38) dX12_statement_132 rfl pm_X12_173 mf_X12_lays (ab_rcv_of hrc rfl) rfl rfl (Nat.le_of_ble_eq_true rfl) ?_
          refine ru_if_eq (tgt := 168) dX12_statement_135 (by decide) (fun hc => ?_) (fun hc => ?_)
          · rw [if_pos hc] at h
            exact ru_pick [] rfl (tbb_X12_statement_168 hl0 hd    _ _ h)
          · rw [if_neg hc] at h
            refine ru_aload_n (i := 0) dX12_statement_138 rfl rfl <| ru_aload_n (i := 0) dX12_statement_139 rfl rfl <| ?_
            refine ru_getR h dX12_statement_140 lk_X12_20 ?_
            intro v39 h
            refine ru_iload_n (i := 1) dX12_statement_143 rfl rfl <| ru_iconst dX12_statement_144 kc_i_2 <| ru_iadd dX12_statement_145 <| ru_iconst dX12_statement_146 kc_i_1 <| ru_sipush dX12_statement_147 kc_s_9999 <| ?_
            obtain ⟨_, hrc, h⟩ := Option.bind_eq_some_iff.mp h
            obtain ⟨q40, hq40, h⟩ := Option.bind_eq_some_iff.mp h
            refine ru_callV (tm_X12_lays hl0 (by omega) hq40) dX12_statement_150 rfl pm_X12_173 mf_X12_lays (ab_rcv_of hrc rfl) rfl rfl (Nat.le_of_ble_eq_true rfl) ?_
            refine ru_if_eq (tgt := 168) dX12_statement_153 (by decide) (fun hc => ?_) (fun hc => ?_)
            · rw [if_pos hc] at h
              exact ru_pick [] rfl (tbb_X12_statement_168 hl0 hd    _ _ h)
            · rw [if_neg hc] at h
              refine ru_aload_n (i := 0) dX12_statement_156 rfl rfl <| ru_iconst dX12_statement_157 kc_i_1 <| ?_
              obtain ⟨_, hrc, h⟩ := Option.bind_eq_some_iff.mp h
              obtain ⟨q41, hq41, h⟩ := Option.bind_eq_some_iff.mp h
              refine ru_callV (tm_X12_counts hl0 (by omega) hq41) dX12_statement_158 rfl pm_X12_186 mf_X12_counts (ab_rcv_of hrc rfl) rfl rfl (Nat.le_of_ble_eq_true rfl) ?_
              refine ru_if_eq (tgt := 168) dX12_statement_161 (by decide) (fun hc => ?_) (fun hc => ?_)
              · rw [if_pos hc] at h
                exact ru_pick [] rfl (tbb_X12_statement_168 hl0 hd    _ _ h)
              · rw [if_neg hc] at h
                refine ru_iconst dX12_statement_164 kc_i_1 <| ru_goto (tgt := 169) dX12_statement_165 (by decide) <| ?_
                exact ru_pick [] rfl (tbb_X12_statement_169 hl0 hd   _ _ _ h)
  · rw [if_neg hc] at h
    refine ru_iconst dX12_statement_9 kc_i_2 <| ru_aload_n (i := 0) dX12_statement_10 rfl rfl <| ?_
    refine ru_getR h dX12_statement_11 lk_X12_13 ?_
    intro v42 h
    refine ru_bipush dX12_statement_14 kc_b_7 <| ?_
    refine ru_iaload h dX12_statement_16 ?_
    intro v43 h
    refine ru_imul dX12_statement_17 <| ru_istore_n (i := 1) dX12_statement_18 rfl (by decide) <| ru_aload_n (i := 0) dX12_statement_19 rfl rfl <| ru_iconst dX12_statement_20 kc_i_0 <| ru_bipush dX12_statement_21 kc_b_8 <| ?_
    obtain ⟨_, hrc, h⟩ := Option.bind_eq_some_iff.mp h
    obtain ⟨q44, hq44, h⟩ := Option.bind_eq_some_iff.mp h
    refine ru_callV (tm_X12_oneMore hl0 (by omega) hq44) dX12_statement_23 rfl pm_X12_183 mf_X12_oneMore (ab_rcv_of hrc rfl) rfl rfl (Nat.le_of_ble_eq_true rfl) ?_
    refine ru_if_eq (tgt := 74) dX12_statement_26 (by decide) (fun hc => ?_) (fun hc => ?_)
    · rw [if_pos hc] at h
      exact ru_pick [] rfl (tbb_X12_statement_74 hl0 hd    _ _ h)
    · rw [if_neg hc] at h
      refine ru_aload_n (i := 0) dX12_statement_29 rfl rfl <| ru_aload_n (i := 0) dX12_statement_30 rfl rfl <| ?_
      refine ru_getR h dX12_statement_31 lk_X12_17 ?_
      intro v45 h
      refine ru_iload_n (i := 1) dX12_statement_34 rfl rfl <| ru_iconst dX12_statement_35 kc_i_1 <| ru_bipush dX12_statement_36 kc_b_64 <| ?_
      obtain ⟨_, hrc, h⟩ := Option.bind_eq_some_iff.mp h
      obtain ⟨q46, hq46, h⟩ := Option.bind_eq_some_iff.mp h
      refine ru_callV (tm_X12_lays hl0 (by omega) hq46) dX12_statement_38 rfl pm_X12_173 mf_X12_lays (ab_rcv_of hrc rfl) rfl rfl (Nat.le_of_ble_eq_true rfl) ?_
      refine ru_if_eq (tgt := 74) dX12_statement_41 (by decide) (fun hc => ?_) (fun hc => ?_)
      · rw [if_pos hc] at h
        exact ru_pick [] rfl (tbb_X12_statement_74 hl0 hd    _ _ h)
      · rw [if_neg hc] at h
        refine ru_aload_n (i := 0) dX12_statement_44 rfl rfl <| ru_aload_n (i := 0) dX12_statement_45 rfl rfl <| ?_
        refine ru_getR h dX12_statement_46 lk_X12_17 ?_
        intro v47 h
        refine ru_iload_n (i := 1) dX12_statement_49 rfl rfl <| ru_iconst dX12_statement_50 kc_i_1 <| ru_iadd dX12_statement_51 <| ru_iconst dX12_statement_52 kc_i_1 <| ru_sipush dX12_statement_53 kc_s_256 <| ?_
        obtain ⟨_, hrc, h⟩ := Option.bind_eq_some_iff.mp h
        obtain ⟨q48, hq48, h⟩ := Option.bind_eq_some_iff.mp h
        refine ru_callV (tm_X12_lays hl0 (by omega) hq48) dX12_statement_56 rfl pm_X12_173 mf_X12_lays (ab_rcv_of hrc rfl) rfl rfl (Nat.le_of_ble_eq_true rfl) ?_
        refine ru_if_eq (tgt := 74) dX12_statement_59 (by decide) (fun hc => ?_) (fun hc => ?_)
        · rw [if_pos hc] at h
          exact ru_pick [] rfl (tbb_X12_statement_74 hl0 hd    _ _ h)
        · rw [if_neg hc] at h
          refine ru_aload_n (i := 0) dX12_statement_62 rfl rfl <| ru_iconst dX12_statement_63 kc_i_0 <| ?_
          obtain ⟨_, hrc, h⟩ := Option.bind_eq_some_iff.mp h
          obtain ⟨q49, hq49, h⟩ := Option.bind_eq_some_iff.mp h
          refine ru_callV (tm_X12_counts hl0 (by omega) hq49) dX12_statement_64 rfl pm_X12_186 mf_X12_counts (ab_rcv_of hrc rfl) rfl rfl (Nat.le_of_ble_eq_true rfl) ?_
          refine ru_if_eq (tgt := 74) dX12_statement_67 (by decide) (fun hc => ?_) (fun hc => ?_)
          · rw [if_pos hc] at h
            exact ru_pick [] rfl (tbb_X12_statement_74 hl0 hd    _ _ h)
          · rw [if_neg hc] at h
            refine ru_iconst dX12_statement_70 kc_i_1 <| ru_goto (tgt := 75) dX12_statement_71 (by decide) <| ?_
            exact ru_pick [] rfl (tbb_X12_statement_75 hl0 hd   _ _ _ h)
