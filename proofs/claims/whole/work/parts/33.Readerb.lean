/-! ===== the methods keep to these functions (by program) ===== -/
theorem tm_X7_isFirst {l : Launch} {g : ab_G} (hl0 : l.stackTraces = false) {d : Nat} (hd : 3 ≤ d) {l0 : Nat} {l1 : Int32} {m : ab_Mm} {z : (Int32 × ab_Mm)} (h : dd_X7_isFirst l0 l1 m = some z) : ab_Met l g yX7_isFirst cX7_isFirst 2 (some .boolean) [] d [.ref l0, .int l1] m (.inl (some (.int z.1))) z.2 := by
  obtain ⟨d2, rfl⟩ : ∃ d2, d = d2 + 1 := ⟨d - 1, by omega⟩
  exact ab_of hl0 (by decide +kernel) (Nat.le_of_ble_eq_true rfl) (fun q => by cases q) rfl (te_X7_isFirst hl0 hd _ _ _ _ h)
theorem te_X7_takes {l : Launch} {g : ab_G} (hl0 : l.stackTraces = false) {d2 : Nat} (hd : 3 ≤ d2 + 1)   (l0 : Nat) (l1 : Int32) (m0 : ab_Mm) (z : (Int32 × ab_Mm)) (h : dd_X7_takes  l0 l1 m0 = some z) : ab_W l g cX7_takes RX7 2 (some .boolean) [] false (d2 + 1) (.inl (some (.int z.1))) z.2 0 [(0, .ref l0), (1, .int l1)] [] m0 := by
  unfold dd_X7_takes at h
  refine ru_aload_n (i := 0) dX7_takes_0 rfl rfl <| ?_
  refine ru_getI h dX7_takes_1 lk_X7_44 ?_
  intro v1 h
  refine ru_iload_n (i := 1) dX7_takes_4 rfl rfl <| ?_
  refine ru_icmp_eq (tgt := 14) dX7_takes_5 (by decide) (fun hc => ?_) (fun hc => ?_)
  · rw [if_pos hc] at h
    refine ru_aload_n (i := 0) dX7_takes_14 rfl rfl <| ?_
    obtain ⟨_, hrc, h⟩ := Option.bind_eq_some_iff.mp h
    obtain ⟨q2, hq2, h⟩ := Option.bind_eq_some_iff.mp h
    refine ru_callV (tm_X7_advance hl0 (by omega) hq2) dX7_takes_15 rfl pm_X7_66 mf_X7_advance (ab_rcv_of hrc rfl) rfl rfl (Nat.le_of_ble_eq_true rfl) ?_
    refine ru_iconst dX7_takes_18 kc_i_1 <| ?_
    cases h
    exact ru_ret (v := some (.int _)) ⟨_, rfl, ab_nz1, dX7_takes_19⟩
  · rw [if_neg hc] at h
    refine ru_aload_n (i := 0) dX7_takes_8 rfl rfl <| ru_iconst dX7_takes_9 kc_i_1 <| ?_
    obtain ⟨_, hrc, h⟩ := Option.bind_eq_some_iff.mp h
    obtain ⟨q3, hq3, h⟩ := Option.bind_eq_some_iff.mp h
    refine ru_callV (tm_X7_fail hl0 (by omega) hq3) dX7_takes_10 rfl pm_X7_141 mf_X7_fail (ab_rcv_of hrc rfl) rfl rfl (Nat.le_of_ble_eq_true rfl) ?_
    rcases ab_iff h with ⟨hc, h⟩ | ⟨hc, h⟩
    · cases h
    cases h
    exact ru_ret (v := some (.int _)) ⟨_, rfl, congrArg Value.int (Classical.not_not.mp hc), dX7_takes_13⟩
theorem tm_X7_takes {l : Launch} {g : ab_G} (hl0 : l.stackTraces = false) {d : Nat} (hd : 3 ≤ d) {l0 : Nat} {l1 : Int32} {m : ab_Mm} {z : (Int32 × ab_Mm)} (h : dd_X7_takes l0 l1 m = some z) : ab_Met l g yX7_takes cX7_takes 2 (some .boolean) [] d [.ref l0, .int l1] m (.inl (some (.int z.1))) z.2 := by
  obtain ⟨d2, rfl⟩ : ∃ d2, d = d2 + 1 := ⟨d - 1, by omega⟩
  exact ab_of hl0 (by decide +kernel) (Nat.le_of_ble_eq_true rfl) (fun q => by cases q) rfl (te_X7_takes hl0 hd _ _ _ _ h)
theorem tbb_X7_name_50 {l : Launch} {g : ab_G} (hl0 : l.stackTraces = false) {d2 : Nat} (hd : 6 ≤ d2 + 1)   (s0 : Int32) (m0 : ab_Mm) (z : (Int32 × ab_Mm)) (h : bb_X7_name_50  s0 m0 = some z) : ab_W l g cX7_name RX7 1 (some .int) [] false (d2 + 1) (.inl (some (.int z.1))) z.2 50 [] [.int s0] m0 := by
  unfold bb_X7_name_50 at h
  cases h
  exact ru_ret (v := some (.int _)) ⟨_, rfl, rfl, dX7_name_50⟩
theorem te_X7_name {l : Launch} {g : ab_G} (hl0 : l.stackTraces = false) {d2 : Nat} (hd : 6 ≤ d2 + 1)   (l0 : Nat) (m0 : ab_Mm) (z : (Int32 × ab_Mm)) (h : dd_X7_name  l0 m0 = some z) : ab_W l g cX7_name RX7 1 (some .int) [] false (d2 + 1) (.inl (some (.int z.1))) z.2 0 [(0, .ref l0)] [] m0 := by
  unfold dd_X7_name at h
  refine ru_aload_n (i := 0) dX7_name_0 rfl rfl <| ru_ldcS (i := 8) (tx := "cpu") dX7_name_1 (by decide +kernel) <| ?_
  obtain ⟨_, hrc, h⟩ := Option.bind_eq_some_iff.mp h
  obtain ⟨q1, hq1, h⟩ := Option.bind_eq_some_iff.mp h
  refine ru_callV (tm_X7_isWord hl0 (by omega) hq1) dX7_name_3 rfl pm_X7_79 mf_X7_isWord (ab_rcv_of hrc rfl) rfl rfl (Nat.le_of_ble_eq_true rfl) ?_
  refine ru_if_eq (tgt := 11) dX7_name_6 (by decide) (fun hc => ?_) (fun hc => ?_)
  · rw [if_pos hc] at h
    refine ru_aload_n (i := 0) dX7_name_11 rfl rfl <| ru_ldcS (i := 9) (tx := "memory") dX7_name_12 (by decide +kernel) <| ?_
    obtain ⟨_, hrc, h⟩ := Option.bind_eq_some_iff.mp h
    obtain ⟨q2, hq2, h⟩ := Option.bind_eq_some_iff.mp h
    refine ru_callV (tm_X7_isWord hl0 (by omega) hq2) dX7_name_14 rfl pm_X7_79 mf_X7_isWord (ab_rcv_of hrc rfl) rfl rfl (Nat.le_of_ble_eq_true rfl) ?_
    refine ru_if_eq (tgt := 23) dX7_name_17 (by decide) (fun hc => ?_) (fun hc => ?_)
    · rw [if_pos hc] at h
      refine ru_aload_n (i := 0) dX7_name_23 rfl rfl <| ru_ldcS (i := 10) (tx := "price") dX7_name_24 (by decide +kernel) <| ?_
      obtain ⟨_, hrc, h⟩ := Option.bind_eq_some_iff.mp h
      obtain ⟨q3, hq3, h⟩ := Option.bind_eq_some_iff.mp h
      refine ru_callV (tm_X7_isWord hl0 (by omega) hq3) dX7_name_26 rfl pm_X7_79 mf_X7_isWord (ab_rcv_of hrc rfl) rfl rfl (Nat.le_of_ble_eq_true rfl) ?_
      refine ru_if_eq (tgt := 35) dX7_name_29 (by decide) (fun hc => ?_) (fun hc => ?_)
      · rw [if_pos hc] at h
        refine ru_aload_n (i := 0) dX7_name_35 rfl rfl <| ru_ldcS (i := 11) (tx := "age") dX7_name_36 (by decide +kernel) <| ?_
        obtain ⟨_, hrc, h⟩ := Option.bind_eq_some_iff.mp h
        obtain ⟨q4, hq4, h⟩ := Option.bind_eq_some_iff.mp h
        refine ru_callV (tm_X7_isWord hl0 (by omega) hq4) dX7_name_38 rfl pm_X7_79 mf_X7_isWord (ab_rcv_of hrc rfl) rfl rfl (Nat.le_of_ble_eq_true rfl) ?_
        refine ru_if_eq (tgt := 49) dX7_name_41 (by decide) (fun hc => ?_) (fun hc => ?_)
        · rw [if_pos hc] at h
          refine ru_iconst dX7_name_49 kc_i_0 <| ?_
          exact ru_pick [] rfl (tbb_X7_name_50 hl0 hd   _ _ _ h)
        · rw [if_neg hc] at h
          refine ru_bipush dX7_name_44 kc_b_m4 <| ru_goto (tgt := 50) dX7_name_46 (by decide) <| ?_
          exact ru_pick [] rfl (tbb_X7_name_50 hl0 hd   _ _ _ h)
      · rw [if_neg hc] at h
        refine ru_bipush dX7_name_32 kc_b_m3 <| ?_
        cases h
        exact ru_ret (v := some (.int _)) ⟨_, rfl, rfl, dX7_name_34⟩
    · rw [if_neg hc] at h
      refine ru_bipush dX7_name_20 kc_b_m2 <| ?_
      cases h
      exact ru_ret (v := some (.int _)) ⟨_, rfl, rfl, dX7_name_22⟩
  · rw [if_neg hc] at h
    refine ru_iconst dX7_name_9 kc_i_m1 <| ?_
    cases h
    exact ru_ret (v := some (.int _)) ⟨_, rfl, rfl, dX7_name_10⟩
theorem tm_X7_name {l : Launch} {g : ab_G} (hl0 : l.stackTraces = false) {d : Nat} (hd : 6 ≤ d) {l0 : Nat} {m : ab_Mm} {z : (Int32 × ab_Mm)} (h : dd_X7_name l0 m = some z) : ab_Met l g yX7_name cX7_name 1 (some .int) [] d [.ref l0] m (.inl (some (.int z.1))) z.2 := by
  obtain ⟨d2, rfl⟩ : ∃ d2, d = d2 + 1 := ⟨d - 1, by omega⟩
  exact ab_of hl0 (by decide +kernel) (Nat.le_of_ble_eq_true rfl) (fun q => by cases q) rfl (te_X7_name hl0 hd _ _ _ h)
theorem tbb_X7_factor_87 {l : Launch} {g : ab_G} (hl0 : l.stackTraces = false) {d2 : Nat} (hd : 7 ≤ d2 + 1) (c_X7_factor : Nat → Int32 → ab_Mm → Option (Int32 × ab_Mm)) (c_X7_sum : Nat → Int32 → ab_Mm → Option (Int32 × ab_Mm)) (hc_X7_factor : ∀ (a0 : Nat) (a1 : Int32) (m : ab_Mm) (z : (Int32 × ab_Mm)), c_X7_factor a0 a1 m = some z → ab_Met l g yX7_factor cX7_factor 3 (some .boolean) [] d2 [.ref a0, .int a1] m (.inl (some (.int z.1))) z.2) (hc_X7_sum : ∀ (a0 : Nat) (a1 : Int32) (m : ab_Mm) (z : (Int32 × ab_Mm)), c_X7_sum a0 a1 m = some z → ab_Met l g yX7_sum cX7_sum 8 (some .boolean) [] d2 [.ref a0, .int a1] m (.inl (some (.int z.1))) z.2) (l0 : Nat) (l2 : Int32) (m0 : ab_Mm) (z : (Int32 × ab_Mm)) (h : bb_X7_factor_87 c_X7_factor c_X7_sum l0 l2 m0 = some z) : ab_W l g cX7_factor RX7 3 (some .boolean) [] false (d2 + 1) (.inl (some (.int z.1))) z.2 87 [(0, .ref l0), (2, .int l2)] [] m0 := by
  unfold bb_X7_factor_87 at h
  refine ru_aload_n (i := 0) dX7_factor_87 rfl rfl <| ?_
  refine ru_getR h dX7_factor_88 lk_X7_25 ?_
  intro v1 h
  refine ru_getR h dX7_factor_91 lk_X7_130 ?_
  intro v2 h
  refine ru_iload_n (i := 2) dX7_factor_94 rfl rfl <| ?_
  obtain ⟨_, hrc, h⟩ := Option.bind_eq_some_iff.mp h
  obtain ⟨q3, hq3, h⟩ := Option.bind_eq_some_iff.mp h
  refine ru_callV (tm_X9_add hl0 (by omega) hq3) dX7_factor_95 rfl pm_X7_170 mf_X9_add (ab_rcv_of hrc rfl) rfl rfl (Nat.le_of_ble_eq_true rfl) ?_
  refine ru_aload_n (i := 0) dX7_factor_98 rfl rfl <| ?_
  obtain ⟨_, hrc, h⟩ := Option.bind_eq_some_iff.mp h
  obtain ⟨q4, hq4, h⟩ := Option.bind_eq_some_iff.mp h
  refine ru_callV (tm_X7_advance hl0 (by omega) hq4) dX7_factor_99 rfl pm_X7_66 mf_X7_advance (ab_rcv_of hrc rfl) rfl rfl (Nat.le_of_ble_eq_true rfl) ?_
  refine ru_iconst dX7_factor_102 kc_i_1 <| ?_
  cases h
  exact ru_ret (v := some (.int _)) ⟨_, rfl, ab_nz1, dX7_factor_103⟩
theorem tbb_X7_factor_68 {l : Launch} {g : ab_G} (hl0 : l.stackTraces = false) {d2 : Nat} (hd : 7 ≤ d2 + 1) (c_X7_factor : Nat → Int32 → ab_Mm → Option (Int32 × ab_Mm)) (c_X7_sum : Nat → Int32 → ab_Mm → Option (Int32 × ab_Mm)) (hc_X7_factor : ∀ (a0 : Nat) (a1 : Int32) (m : ab_Mm) (z : (Int32 × ab_Mm)), c_X7_factor a0 a1 m = some z → ab_Met l g yX7_factor cX7_factor 3 (some .boolean) [] d2 [.ref a0, .int a1] m (.inl (some (.int z.1))) z.2) (hc_X7_sum : ∀ (a0 : Nat) (a1 : Int32) (m : ab_Mm) (z : (Int32 × ab_Mm)), c_X7_sum a0 a1 m = some z → ab_Met l g yX7_sum cX7_sum 8 (some .boolean) [] d2 [.ref a0, .int a1] m (.inl (some (.int z.1))) z.2) (l0 : Nat) (s0 : Int32) (m0 : ab_Mm) (z : (Int32 × ab_Mm)) (h : bb_X7_factor_68 c_X7_factor c_X7_sum l0 s0 m0 = some z) : ab_W l g cX7_factor RX7 3 (some .boolean) [] false (d2 + 1) (.inl (some (.int z.1))) z.2 68 [(0, .ref l0)] [.int s0] m0 := by
  unfold bb_X7_factor_68 at h
  refine ru_istore_n (i := 2) dX7_factor_68 rfl (by decide) <| ru_iload_n (i := 2) dX7_factor_69 rfl rfl <| ?_
  refine ru_if_ne (tgt := 87) dX7_factor_70 (by decide) (fun hc => ?_) (fun hc => ?_)
  · rw [if_neg hc] at h
    exact ru_pick [0, 2] rfl (tbb_X7_factor_87 hl0 hd _ _ hc_X7_factor hc_X7_sum _ _ _ _ h)
  · rw [if_pos hc] at h
    refine ru_aload_n (i := 0) dX7_factor_73 rfl rfl <| ?_
    refine ru_getI h dX7_factor_74 lk_X7_44 ?_
    intro v1 h
    refine ru_iconst dX7_factor_77 kc_i_2 <| ?_
    refine ru_icmp_eq (tgt := 87) dX7_factor_78 (by decide) (fun hc => ?_) (fun hc => ?_)
    · rw [if_pos hc] at h
      exact ru_pick [0, 2] rfl (tbb_X7_factor_87 hl0 hd _ _ hc_X7_factor hc_X7_sum _ _ _ _ h)
    · rw [if_neg hc] at h
      refine ru_aload_n (i := 0) dX7_factor_81 rfl rfl <| ru_iconst dX7_factor_82 kc_i_1 <| ?_
      obtain ⟨_, hrc, h⟩ := Option.bind_eq_some_iff.mp h
      obtain ⟨q2, hq2, h⟩ := Option.bind_eq_some_iff.mp h
      refine ru_callV (tm_X7_fail hl0 (by omega) hq2) dX7_factor_83 rfl pm_X7_141 mf_X7_fail (ab_rcv_of hrc rfl) rfl rfl (Nat.le_of_ble_eq_true rfl) ?_
      rcases ab_iff h with ⟨hc, h⟩ | ⟨hc, h⟩
      · cases h
      cases h
      exact ru_ret (v := some (.int _)) ⟨_, rfl, congrArg Value.int (Classical.not_not.mp hc), dX7_factor_86⟩
theorem tbb_X7_factor_48 {l : Launch} {g : ab_G} (hl0 : l.stackTraces = false) {d2 : Nat} (hd : 7 ≤ d2 + 1) (c_X7_factor : Nat → Int32 → ab_Mm → Option (Int32 × ab_Mm)) (c_X7_sum : Nat → Int32 → ab_Mm → Option (Int32 × ab_Mm)) (hc_X7_factor : ∀ (a0 : Nat) (a1 : Int32) (m : ab_Mm) (z : (Int32 × ab_Mm)), c_X7_factor a0 a1 m = some z → ab_Met l g yX7_factor cX7_factor 3 (some .boolean) [] d2 [.ref a0, .int a1] m (.inl (some (.int z.1))) z.2) (hc_X7_sum : ∀ (a0 : Nat) (a1 : Int32) (m : ab_Mm) (z : (Int32 × ab_Mm)), c_X7_sum a0 a1 m = some z → ab_Met l g yX7_sum cX7_sum 8 (some .boolean) [] d2 [.ref a0, .int a1] m (.inl (some (.int z.1))) z.2) (s0 : Int32) (m0 : ab_Mm) (z : (Int32 × ab_Mm)) (h : bb_X7_factor_48 c_X7_factor c_X7_sum s0 m0 = some z) : ab_W l g cX7_factor RX7 3 (some .boolean) [] false (d2 + 1) (.inl (some (.int z.1))) z.2 48 [] [.int s0] m0 := by
  unfold bb_X7_factor_48 at h
  rcases ab_iff h with ⟨hc, h⟩ | ⟨hc, h⟩
  · cases h
  cases h
  exact ru_ret (v := some (.int _)) ⟨_, rfl, congrArg Value.int (Classical.not_not.mp hc), dX7_factor_48⟩
theorem tbb_X7_factor_47 {l : Launch} {g : ab_G} (hl0 : l.stackTraces = false) {d2 : Nat} (hd : 7 ≤ d2 + 1) (c_X7_factor : Nat → Int32 → ab_Mm → Option (Int32 × ab_Mm)) (c_X7_sum : Nat → Int32 → ab_Mm → Option (Int32 × ab_Mm)) (hc_X7_factor : ∀ (a0 : Nat) (a1 : Int32) (m : ab_Mm) (z : (Int32 × ab_Mm)), c_X7_factor a0 a1 m = some z → ab_Met l g yX7_factor cX7_factor 3 (some .boolean) [] d2 [.ref a0, .int a1] m (.inl (some (.int z.1))) z.2) (hc_X7_sum : ∀ (a0 : Nat) (a1 : Int32) (m : ab_Mm) (z : (Int32 × ab_Mm)), c_X7_sum a0 a1 m = some z → ab_Met l g yX7_sum cX7_sum 8 (some .boolean) [] d2 [.ref a0, .int a1] m (.inl (some (.int z.1))) z.2)  (m0 : ab_Mm) (z : (Int32 × ab_Mm)) (h : bb_X7_factor_47 c_X7_factor c_X7_sum  m0 = some z) : ab_W l g cX7_factor RX7 3 (some .boolean) [] false (d2 + 1) (.inl (some (.int z.1))) z.2 47 [] [] m0 := by
  unfold bb_X7_factor_47 at h
  refine ru_iconst dX7_factor_47 kc_i_0 <| ?_
  exact ru_pick [] rfl (tbb_X7_factor_48 hl0 hd _ _ hc_X7_factor hc_X7_sum _ _ _ h)
theorem te_X7_factor {l : Launch} {g : ab_G} (hl0 : l.stackTraces = false) {d2 : Nat} (hd : 7 ≤ d2 + 1) (c_X7_factor : Nat → Int32 → ab_Mm → Option (Int32 × ab_Mm)) (c_X7_sum : Nat → Int32 → ab_Mm → Option (Int32 × ab_Mm)) (hc_X7_factor : ∀ (a0 : Nat) (a1 : Int32) (m : ab_Mm) (z : (Int32 × ab_Mm)), c_X7_factor a0 a1 m = some z → ab_Met l g yX7_factor cX7_factor 3 (some .boolean) [] d2 [.ref a0, .int a1] m (.inl (some (.int z.1))) z.2) (hc_X7_sum : ∀ (a0 : Nat) (a1 : Int32) (m : ab_Mm) (z : (Int32 × ab_Mm)), c_X7_sum a0 a1 m = some z → ab_Met l g yX7_sum cX7_sum 8 (some .boolean) [] d2 [.ref a0, .int a1] m (.inl (some (.int z.1))) z.2) (l0 : Nat) (l1 : Int32) (m0 : ab_Mm) (z : (Int32 × ab_Mm)) (h : st_X7_factor c_X7_factor c_X7_sum l0 l1 m0 = some z) : ab_W l g cX7_factor RX7 3 (some .boolean) [] false (d2 + 1) (.inl (some (.int z.1))) z.2 0 [(0, .ref l0), (1, .int l1)] [] m0 := by
  unfold st_X7_factor at h
  refine ru_aload_n (i := 0) dX7_factor_0 rfl rfl <| ?_
  refine ru_getI h dX7_factor_1 lk_X7_44 ?_
  intro v1 h
  refine ru_bipush dX7_factor_4 kc_b_40 <| ?_
  refine ru_icmp_ne (tgt := 49) dX7_factor_6 (by decide) (fun hc => ?_) (fun hc => ?_)
  · rw [if_neg hc] at h
    refine ru_aload_n (i := 0) dX7_factor_49 rfl rfl <| ?_
    refine ru_getI h dX7_factor_50 lk_X7_44 ?_
    intro v2 h
    refine ru_iconst dX7_factor_53 kc_i_2 <| ?_
    refine ru_icmp_ne (tgt := 64) dX7_factor_54 (by decide) (fun hc => ?_) (fun hc => ?_)
    · rw [if_neg hc] at h
      refine ru_aload_n (i := 0) dX7_factor_64 rfl rfl <| ?_
      obtain ⟨_, hrc, h⟩ := Option.bind_eq_some_iff.mp h
      obtain ⟨q3, hq3, h⟩ := Option.bind_eq_some_iff.mp h
      refine ru_callV (tm_X7_name hl0 (by omega) hq3) dX7_factor_65 rfl pm_X7_173 mf_X7_name (ab_rcv_of hrc rfl) rfl rfl (Nat.le_of_ble_eq_true rfl) ?_
      exact ru_pick [0] rfl (tbb_X7_factor_68 hl0 hd _ _ hc_X7_factor hc_X7_sum _ _ _ _ h)
    · rw [if_pos hc] at h
      refine ru_aload_n (i := 0) dX7_factor_57 rfl rfl <| ?_
      obtain ⟨_, hrc, h⟩ := Option.bind_eq_some_iff.mp h
      obtain ⟨q4, hq4, h⟩ := Option.bind_eq_some_iff.mp h
      refine ru_callV (tm_X7_number hl0 (by omega) hq4) dX7_factor_58 rfl pm_X7_155 mf_X7_number (ab_rcv_of hrc rfl) rfl rfl (Nat.le_of_ble_eq_true rfl) ?_
      refine ru_goto (tgt := 68) dX7_factor_61 (by decide) <| ?_
      exact ru_pick [0] rfl (tbb_X7_factor_68 hl0 hd _ _ hc_X7_factor hc_X7_sum _ _ _ _ h)
  · rw [if_pos hc] at h
    refine ru_iload_n (i := 1) dX7_factor_9 rfl rfl <| ru_iconst dX7_factor_10 kc_i_5 <| ?_
    refine ru_icmp_lt (tgt := 20) dX7_factor_11 (by decide) (fun hc => ?_) (fun hc => ?_)
    · rw [if_pos hc] at h
      refine ru_aload_n (i := 0) dX7_factor_20 rfl rfl <| ?_
      obtain ⟨_, hrc, h⟩ := Option.bind_eq_some_iff.mp h
      obtain ⟨q5, hq5, h⟩ := Option.bind_eq_some_iff.mp h
      refine ru_callV (tm_X7_advance hl0 (by omega) hq5) dX7_factor_21 rfl pm_X7_66 mf_X7_advance (ab_rcv_of hrc rfl) rfl rfl (Nat.le_of_ble_eq_true rfl) ?_
      refine ru_aload_n (i := 0) dX7_factor_24 rfl rfl <| ru_iload_n (i := 1) dX7_factor_25 rfl rfl <| ru_iconst dX7_factor_26 kc_i_1 <| ru_iadd dX7_factor_27 <| ?_
      obtain ⟨_, hrc, h⟩ := Option.bind_eq_some_iff.mp h
      obtain ⟨q6, hq6, h⟩ := Option.bind_eq_some_iff.mp h
      refine ru_callV (hc_X7_sum _ _ _ _ hq6) dX7_factor_28 rfl pm_X7_138 mf_X7_sum (ab_rcv_of hrc rfl) rfl rfl (Nat.le_of_ble_eq_true rfl) ?_
      refine ru_if_eq (tgt := 47) dX7_factor_31 (by decide) (fun hc => ?_) (fun hc => ?_)
      · rw [if_pos hc] at h
        exact ru_pick [] rfl (tbb_X7_factor_47 hl0 hd _ _ hc_X7_factor hc_X7_sum  _ _ h)
      · rw [if_neg hc] at h
        refine ru_aload_n (i := 0) dX7_factor_34 rfl rfl <| ru_bipush dX7_factor_35 kc_b_41 <| ?_
        obtain ⟨_, hrc, h⟩ := Option.bind_eq_some_iff.mp h
        obtain ⟨q7, hq7, h⟩ := Option.bind_eq_some_iff.mp h
        refine ru_callV (tm_X7_takes hl0 (by omega) hq7) dX7_factor_37 rfl pm_X7_73 mf_X7_takes (ab_rcv_of hrc rfl) rfl rfl (Nat.le_of_ble_eq_true rfl) ?_
        refine ru_if_eq (tgt := 47) dX7_factor_40 (by decide) (fun hc => ?_) (fun hc => ?_)
        · rw [if_pos hc] at h
          exact ru_pick [] rfl (tbb_X7_factor_47 hl0 hd _ _ hc_X7_factor hc_X7_sum  _ _ h)
        · rw [if_neg hc] at h
          refine ru_iconst dX7_factor_43 kc_i_1 <| ru_goto (tgt := 48) dX7_factor_44 (by decide) <| ?_
          exact ru_pick [] rfl (tbb_X7_factor_48 hl0 hd _ _ hc_X7_factor hc_X7_sum _ _ _ h)
    · rw [if_neg hc] at h
      refine ru_aload_n (i := 0) dX7_factor_14 rfl rfl <| ru_iconst dX7_factor_15 kc_i_4 <| ?_
      obtain ⟨_, hrc, h⟩ := Option.bind_eq_some_iff.mp h
      obtain ⟨q8, hq8, h⟩ := Option.bind_eq_some_iff.mp h
      refine ru_callV (tm_X7_fail hl0 (by omega) hq8) dX7_factor_16 rfl pm_X7_141 mf_X7_fail (ab_rcv_of hrc rfl) rfl rfl (Nat.le_of_ble_eq_true rfl) ?_
      rcases ab_iff h with ⟨hc, h⟩ | ⟨hc, h⟩
      · cases h
      cases h
      exact ru_ret (v := some (.int _)) ⟨_, rfl, congrArg Value.int (Classical.not_not.mp hc), dX7_factor_19⟩
theorem tbb_X7_sum_146 {l : Launch} {g : ab_G} (hl0 : l.stackTraces = false) {d2 : Nat} (hd : 7 ≤ d2 + 1) (c_X7_factor : Nat → Int32 → ab_Mm → Option (Int32 × ab_Mm)) (c_X7_sum : Nat → Int32 → ab_Mm → Option (Int32 × ab_Mm)) (hc_X7_factor : ∀ (a0 : Nat) (a1 : Int32) (m : ab_Mm) (z : (Int32 × ab_Mm)), c_X7_factor a0 a1 m = some z → ab_Met l g yX7_factor cX7_factor 3 (some .boolean) [] d2 [.ref a0, .int a1] m (.inl (some (.int z.1))) z.2) (hc_X7_sum : ∀ (a0 : Nat) (a1 : Int32) (m : ab_Mm) (z : (Int32 × ab_Mm)), c_X7_sum a0 a1 m = some z → ab_Met l g yX7_sum cX7_sum 8 (some .boolean) [] d2 [.ref a0, .int a1] m (.inl (some (.int z.1))) z.2) (l3 : Int32) (m0 : ab_Mm) (z : (Int32 × ab_Mm)) (h : bb_X7_sum_146 c_X7_factor c_X7_sum l3 m0 = some z) : ab_W l g cX7_sum RX7 8 (some .boolean) [] false (d2 + 1) (.inl (some (.int z.1))) z.2 146 [(3, .int l3)] [] m0 := by
  unfold bb_X7_sum_146 at h
  refine ru_iload_n (i := 3) dX7_sum_146 rfl rfl <| ?_
  rcases ab_iff h with ⟨hc, h⟩ | ⟨hc, h⟩
  · cases h
  cases h
  exact ru_ret (v := some (.int _)) ⟨_, rfl, congrArg Value.int (Classical.not_not.mp hc), dX7_sum_147⟩
theorem tbb_X7_sum_140 {l : Launch} {g : ab_G} (hl0 : l.stackTraces = false) {d2 : Nat} (hd : 7 ≤ d2 + 1) (c_X7_factor : Nat → Int32 → ab_Mm → Option (Int32 × ab_Mm)) (c_X7_sum : Nat → Int32 → ab_Mm → Option (Int32 × ab_Mm)) (r11 : Nat → Int32 → Int32 → Int32 → Int32 → ab_Mm → Option (Int32 × ab_Mm)) (hc_X7_factor : ∀ (a0 : Nat) (a1 : Int32) (m : ab_Mm) (z : (Int32 × ab_Mm)), c_X7_factor a0 a1 m = some z → ab_Met l g yX7_factor cX7_factor 3 (some .boolean) [] d2 [.ref a0, .int a1] m (.inl (some (.int z.1))) z.2) (hc_X7_sum : ∀ (a0 : Nat) (a1 : Int32) (m : ab_Mm) (z : (Int32 × ab_Mm)), c_X7_sum a0 a1 m = some z → ab_Met l g yX7_sum cX7_sum 8 (some .boolean) [] d2 [.ref a0, .int a1] m (.inl (some (.int z.1))) z.2) (hr11 : ∀ (l0 : Nat) (l1 : Int32) (l2 : Int32) (l3 : Int32) (l4 : Int32) (m : ab_Mm) (z : (Int32 × ab_Mm)), r11 l0 l1 l2 l3 l4 m = some z → ab_W l g cX7_sum RX7 8 (some .boolean) [] false (d2 + 1) (.inl (some (.int z.1))) z.2 11 [(0, .ref l0), (1, .int l1), (2, .int l2), (3, .int l3), (4, .int l4)] [] m) (l0 : Nat) (l1 : Int32) (l2 : Int32) (l3 : Int32) (l4 : Int32) (m0 : ab_Mm) (z : (Int32 × ab_Mm)) (h : bb_X7_sum_140 c_X7_factor c_X7_sum r11 l0 l1 l2 l3 l4 m0 = some z) : ab_W l g cX7_sum RX7 8 (some .boolean) [] false (d2 + 1) (.inl (some (.int z.1))) z.2 140 [(0, .ref l0), (1, .int l1), (2, .int l2), (3, .int l3), (4, .int l4)] [] m0 := by
  unfold bb_X7_sum_140 at h
  refine ru_iinc dX7_sum_140 (by decide) rfl (ab_inc kc_i_1) <| ru_goto (tgt := 11) dX7_sum_143 (by decide) <| ?_
  exact ru_pick [0, 1, 2, 3, 4] rfl (hr11 _ _ _ _ _ _ _ h)
theorem tbb_X7_sum_106 {l : Launch} {g : ab_G} (hl0 : l.stackTraces = false) {d2 : Nat} (hd : 7 ≤ d2 + 1) (c_X7_factor : Nat → Int32 → ab_Mm → Option (Int32 × ab_Mm)) (c_X7_sum : Nat → Int32 → ab_Mm → Option (Int32 × ab_Mm)) (r11 : Nat → Int32 → Int32 → Int32 → Int32 → ab_Mm → Option (Int32 × ab_Mm)) (hc_X7_factor : ∀ (a0 : Nat) (a1 : Int32) (m : ab_Mm) (z : (Int32 × ab_Mm)), c_X7_factor a0 a1 m = some z → ab_Met l g yX7_factor cX7_factor 3 (some .boolean) [] d2 [.ref a0, .int a1] m (.inl (some (.int z.1))) z.2) (hc_X7_sum : ∀ (a0 : Nat) (a1 : Int32) (m : ab_Mm) (z : (Int32 × ab_Mm)), c_X7_sum a0 a1 m = some z → ab_Met l g yX7_sum cX7_sum 8 (some .boolean) [] d2 [.ref a0, .int a1] m (.inl (some (.int z.1))) z.2) (hr11 : ∀ (l0 : Nat) (l1 : Int32) (l2 : Int32) (l3 : Int32) (l4 : Int32) (m : ab_Mm) (z : (Int32 × ab_Mm)), r11 l0 l1 l2 l3 l4 m = some z → ab_W l g cX7_sum RX7 8 (some .boolean) [] false (d2 + 1) (.inl (some (.int z.1))) z.2 11 [(0, .ref l0), (1, .int l1), (2, .int l2), (3, .int l3), (4, .int l4)] [] m) (l0 : Nat) (l1 : Int32) (l2 : Int32) (l4 : Int32) (l5 : Int32) (l6 : Int32) (m0 : ab_Mm) (z : (Int32 × ab_Mm)) (h : bb_X7_sum_106 c_X7_factor c_X7_sum r11 l0 l1 l2 l4 l5 l6 m0 = some z) : ab_W l g cX7_sum RX7 8 (some .boolean) [] false (d2 + 1) (.inl (some (.int z.1))) z.2 106 [(0, .ref l0), (1, .int l1), (2, .int l2), (4, .int l4), (5, .int l5), (6, .int l6)] [] m0 := by
  unfold bb_X7_sum_106 at h
  refine ru_aload_n (i := 0) dX7_sum_106 rfl rfl <| ?_
  obtain ⟨_, hrc, h⟩ := Option.bind_eq_some_iff.mp h
  obtain ⟨q1, hq1, h⟩ := Option.bind_eq_some_iff.mp h
  refine ru_callV (tm_X7_advance hl0 (by omega) hq1) dX7_sum_107 rfl pm_X7_66 mf_X7_advance (ab_rcv_of hrc rfl) rfl rfl (Nat.le_of_ble_eq_true rfl) ?_
  refine ru_aload_n (i := 0) dX7_sum_110 rfl rfl <| ru_iload_n (i := 1) dX7_sum_111 rfl rfl <| ?_
  obtain ⟨_, hrc, h⟩ := Option.bind_eq_some_iff.mp h
  obtain ⟨q2, hq2, h⟩ := Option.bind_eq_some_iff.mp h
  refine ru_callV (hc_X7_factor _ _ _ _ hq2) dX7_sum_112 rfl pm_X7_167 mf_X7_factor (ab_rcv_of hrc rfl) rfl rfl (Nat.le_of_ble_eq_true rfl) ?_
  refine ru_istore_n (i := 3) dX7_sum_115 rfl (by decide) <| ru_iload dX7_sum_116 rfl <| ?_
  refine ru_if_eq (tgt := 137) dX7_sum_118 (by decide) (fun hc => ?_) (fun hc => ?_)
  · rw [if_pos hc] at h
    refine ru_iload dX7_sum_137 rfl <| ru_istore_n (i := 2) dX7_sum_139 rfl (by decide) <| ?_
    exact ru_pick [0, 1, 2, 3, 4] rfl (tbb_X7_sum_140 hl0 hd _ _ _ hc_X7_factor hc_X7_sum hr11 _ _ _ _ _ _ _ h)
  · rw [if_neg hc] at h
    refine ru_aload_n (i := 0) dX7_sum_121 rfl rfl <| ?_
    refine ru_getR h dX7_sum_122 lk_X7_25 ?_
    intro v3 h
    refine ru_getR h dX7_sum_125 lk_X7_130 ?_
    intro v4 h
    refine ru_iload dX7_sum_128 rfl <| ru_ineg dX7_sum_130 <| ?_
    obtain ⟨_, hrc, h⟩ := Option.bind_eq_some_iff.mp h
    obtain ⟨q5, hq5, h⟩ := Option.bind_eq_some_iff.mp h
    refine ru_callV (tm_X9_add hl0 (by omega) hq5) dX7_sum_131 rfl pm_X7_170 mf_X9_add (ab_rcv_of hrc rfl) rfl rfl (Nat.le_of_ble_eq_true rfl) ?_
    refine ru_goto (tgt := 140) dX7_sum_134 (by decide) <| ?_
    exact ru_pick [0, 1, 2, 3, 4] rfl (tbb_X7_sum_140 hl0 hd _ _ _ hc_X7_factor hc_X7_sum hr11 _ _ _ _ _ _ _ h)
theorem tbb_X7_sum_94 {l : Launch} {g : ab_G} (hl0 : l.stackTraces = false) {d2 : Nat} (hd : 7 ≤ d2 + 1) (c_X7_factor : Nat → Int32 → ab_Mm → Option (Int32 × ab_Mm)) (c_X7_sum : Nat → Int32 → ab_Mm → Option (Int32 × ab_Mm)) (r11 : Nat → Int32 → Int32 → Int32 → Int32 → ab_Mm → Option (Int32 × ab_Mm)) (hc_X7_factor : ∀ (a0 : Nat) (a1 : Int32) (m : ab_Mm) (z : (Int32 × ab_Mm)), c_X7_factor a0 a1 m = some z → ab_Met l g yX7_factor cX7_factor 3 (some .boolean) [] d2 [.ref a0, .int a1] m (.inl (some (.int z.1))) z.2) (hc_X7_sum : ∀ (a0 : Nat) (a1 : Int32) (m : ab_Mm) (z : (Int32 × ab_Mm)), c_X7_sum a0 a1 m = some z → ab_Met l g yX7_sum cX7_sum 8 (some .boolean) [] d2 [.ref a0, .int a1] m (.inl (some (.int z.1))) z.2) (hr11 : ∀ (l0 : Nat) (l1 : Int32) (l2 : Int32) (l3 : Int32) (l4 : Int32) (m : ab_Mm) (z : (Int32 × ab_Mm)), r11 l0 l1 l2 l3 l4 m = some z → ab_W l g cX7_sum RX7 8 (some .boolean) [] false (d2 + 1) (.inl (some (.int z.1))) z.2 11 [(0, .ref l0), (1, .int l1), (2, .int l2), (3, .int l3), (4, .int l4)] [] m) (l0 : Nat) (l1 : Int32) (l2 : Int32) (l4 : Int32) (l5 : Int32) (l6 : Int32) (l7 : Int32) (m0 : ab_Mm) (z : (Int32 × ab_Mm)) (h : bb_X7_sum_94 c_X7_factor c_X7_sum r11 l0 l1 l2 l4 l5 l6 l7 m0 = some z) : ab_W l g cX7_sum RX7 8 (some .boolean) [] false (d2 + 1) (.inl (some (.int z.1))) z.2 94 [(0, .ref l0), (1, .int l1), (2, .int l2), (4, .int l4), (5, .int l5), (6, .int l6), (7, .int l7)] [] m0 := by
  unfold bb_X7_sum_94 at h
  refine ru_iload dX7_sum_94 rfl <| ?_
  refine ru_if_ne (tgt := 106) dX7_sum_96 (by decide) (fun hc => ?_) (fun hc => ?_)
  · rw [if_neg hc] at h
    exact ru_pick [0, 1, 2, 4, 5, 6] rfl (tbb_X7_sum_106 hl0 hd _ _ _ hc_X7_factor hc_X7_sum hr11 _ _ _ _ _ _ _ _ h)
  · rw [if_pos hc] at h
    refine ru_iload dX7_sum_99 rfl <| ?_
    refine ru_if_ne (tgt := 106) dX7_sum_101 (by decide) (fun hc => ?_) (fun hc => ?_)
    · rw [if_neg hc] at h
      exact ru_pick [0, 1, 2, 4, 5, 6] rfl (tbb_X7_sum_106 hl0 hd _ _ _ hc_X7_factor hc_X7_sum hr11 _ _ _ _ _ _ _ _ h)
    · rw [if_pos hc] at h
      refine ru_iconst dX7_sum_104 kc_i_1 <| ?_
      cases h
      exact ru_ret (v := some (.int _)) ⟨_, rfl, ab_nz1, dX7_sum_105⟩
theorem tbb_X7_sum_69 {l : Launch} {g : ab_G} (hl0 : l.stackTraces = false) {d2 : Nat} (hd : 7 ≤ d2 + 1) (c_X7_factor : Nat → Int32 → ab_Mm → Option (Int32 × ab_Mm)) (c_X7_sum : Nat → Int32 → ab_Mm → Option (Int32 × ab_Mm)) (r11 : Nat → Int32 → Int32 → Int32 → Int32 → ab_Mm → Option (Int32 × ab_Mm)) (hc_X7_factor : ∀ (a0 : Nat) (a1 : Int32) (m : ab_Mm) (z : (Int32 × ab_Mm)), c_X7_factor a0 a1 m = some z → ab_Met l g yX7_factor cX7_factor 3 (some .boolean) [] d2 [.ref a0, .int a1] m (.inl (some (.int z.1))) z.2) (hc_X7_sum : ∀ (a0 : Nat) (a1 : Int32) (m : ab_Mm) (z : (Int32 × ab_Mm)), c_X7_sum a0 a1 m = some z → ab_Met l g yX7_sum cX7_sum 8 (some .boolean) [] d2 [.ref a0, .int a1] m (.inl (some (.int z.1))) z.2) (hr11 : ∀ (l0 : Nat) (l1 : Int32) (l2 : Int32) (l3 : Int32) (l4 : Int32) (m : ab_Mm) (z : (Int32 × ab_Mm)), r11 l0 l1 l2 l3 l4 m = some z → ab_W l g cX7_sum RX7 8 (some .boolean) [] false (d2 + 1) (.inl (some (.int z.1))) z.2 11 [(0, .ref l0), (1, .int l1), (2, .int l2), (3, .int l3), (4, .int l4)] [] m) (l0 : Nat) (l1 : Int32) (l2 : Int32) (l4 : Int32) (l5 : Int32) (l6 : Int32) (s0 : Int32) (m0 : ab_Mm) (z : (Int32 × ab_Mm)) (h : bb_X7_sum_69 c_X7_factor c_X7_sum r11 l0 l1 l2 l4 l5 l6 s0 m0 = some z) : ab_W l g cX7_sum RX7 8 (some .boolean) [] false (d2 + 1) (.inl (some (.int z.1))) z.2 69 [(0, .ref l0), (1, .int l1), (2, .int l2), (4, .int l4), (5, .int l5), (6, .int l6)] [.int s0] m0 := by
  unfold bb_X7_sum_69 at h
  refine ru_istore dX7_sum_69 (by decide) <| ru_iload dX7_sum_71 rfl <| ?_
  refine ru_if_ne (tgt := 94) dX7_sum_73 (by decide) (fun hc => ?_) (fun hc => ?_)
  · rw [if_neg hc] at h
    exact ru_pick [0, 1, 2, 4, 5, 6, 7] rfl (tbb_X7_sum_94 hl0 hd _ _ _ hc_X7_factor hc_X7_sum hr11 _ _ _ _ _ _ _ _ _ h)
  · rw [if_pos hc] at h
    refine ru_iload_n (i := 2) dX7_sum_76 rfl rfl <| ?_
    refine ru_if_eq (tgt := 94) dX7_sum_77 (by decide) (fun hc => ?_) (fun hc => ?_)
    · rw [if_pos hc] at h
      exact ru_pick [0, 1, 2, 4, 5, 6, 7] rfl (tbb_X7_sum_94 hl0 hd _ _ _ hc_X7_factor hc_X7_sum hr11 _ _ _ _ _ _ _ _ _ h)
    · rw [if_neg hc] at h
      refine ru_aload_n (i := 0) dX7_sum_80 rfl rfl <| ?_
      refine ru_getR h dX7_sum_81 lk_X7_25 ?_
      intro v1 h
      refine ru_getR h dX7_sum_84 lk_X7_130 ?_
      intro v2 h
      refine ru_iload_n (i := 2) dX7_sum_87 rfl rfl <| ru_ineg dX7_sum_88 <| ?_
      obtain ⟨_, hrc, h⟩ := Option.bind_eq_some_iff.mp h
      obtain ⟨q3, hq3, h⟩ := Option.bind_eq_some_iff.mp h
      refine ru_callV (tm_X9_add hl0 (by omega) hq3) dX7_sum_89 rfl pm_X7_170 mf_X9_add (ab_rcv_of hrc rfl) rfl rfl (Nat.le_of_ble_eq_true rfl) ?_
      refine ru_iconst dX7_sum_92 kc_i_0 <| ru_istore_n (i := 2) dX7_sum_93 rfl (by decide) <| ?_
      exact ru_pick [0, 1, 2, 4, 5, 6, 7] rfl (tbb_X7_sum_94 hl0 hd _ _ _ hc_X7_factor hc_X7_sum hr11 _ _ _ _ _ _ _ _ _ h)
theorem tbb_X7_sum_64 {l : Launch} {g : ab_G} (hl0 : l.stackTraces = false) {d2 : Nat} (hd : 7 ≤ d2 + 1) (c_X7_factor : Nat → Int32 → ab_Mm → Option (Int32 × ab_Mm)) (c_X7_sum : Nat → Int32 → ab_Mm → Option (Int32 × ab_Mm)) (r11 : Nat → Int32 → Int32 → Int32 → Int32 → ab_Mm → Option (Int32 × ab_Mm)) (hc_X7_factor : ∀ (a0 : Nat) (a1 : Int32) (m : ab_Mm) (z : (Int32 × ab_Mm)), c_X7_factor a0 a1 m = some z → ab_Met l g yX7_factor cX7_factor 3 (some .boolean) [] d2 [.ref a0, .int a1] m (.inl (some (.int z.1))) z.2) (hc_X7_sum : ∀ (a0 : Nat) (a1 : Int32) (m : ab_Mm) (z : (Int32 × ab_Mm)), c_X7_sum a0 a1 m = some z → ab_Met l g yX7_sum cX7_sum 8 (some .boolean) [] d2 [.ref a0, .int a1] m (.inl (some (.int z.1))) z.2) (hr11 : ∀ (l0 : Nat) (l1 : Int32) (l2 : Int32) (l3 : Int32) (l4 : Int32) (m : ab_Mm) (z : (Int32 × ab_Mm)), r11 l0 l1 l2 l3 l4 m = some z → ab_W l g cX7_sum RX7 8 (some .boolean) [] false (d2 + 1) (.inl (some (.int z.1))) z.2 11 [(0, .ref l0), (1, .int l1), (2, .int l2), (3, .int l3), (4, .int l4)] [] m) (l0 : Nat) (l1 : Int32) (l2 : Int32) (l4 : Int32) (l5 : Int32) (l6 : Int32) (m0 : ab_Mm) (z : (Int32 × ab_Mm)) (h : bb_X7_sum_64 c_X7_factor c_X7_sum r11 l0 l1 l2 l4 l5 l6 m0 = some z) : ab_W l g cX7_sum RX7 8 (some .boolean) [] false (d2 + 1) (.inl (some (.int z.1))) z.2 64 [(0, .ref l0), (1, .int l1), (2, .int l2), (4, .int l4), (5, .int l5), (6, .int l6)] [] m0 := by
  unfold bb_X7_sum_64 at h
  refine ru_iconst dX7_sum_64 kc_i_1 <| ru_goto (tgt := 69) dX7_sum_65 (by decide) <| ?_
  exact ru_pick [0, 1, 2, 4, 5, 6] rfl (tbb_X7_sum_69 hl0 hd _ _ _ hc_X7_factor hc_X7_sum hr11 _ _ _ _ _ _ _ _ _ h)
theorem tbb_X7_sum_48 {l : Launch} {g : ab_G} (hl0 : l.stackTraces = false) {d2 : Nat} (hd : 7 ≤ d2 + 1) (c_X7_factor : Nat → Int32 → ab_Mm → Option (Int32 × ab_Mm)) (c_X7_sum : Nat → Int32 → ab_Mm → Option (Int32 × ab_Mm)) (r11 : Nat → Int32 → Int32 → Int32 → Int32 → ab_Mm → Option (Int32 × ab_Mm)) (hc_X7_factor : ∀ (a0 : Nat) (a1 : Int32) (m : ab_Mm) (z : (Int32 × ab_Mm)), c_X7_factor a0 a1 m = some z → ab_Met l g yX7_factor cX7_factor 3 (some .boolean) [] d2 [.ref a0, .int a1] m (.inl (some (.int z.1))) z.2) (hc_X7_sum : ∀ (a0 : Nat) (a1 : Int32) (m : ab_Mm) (z : (Int32 × ab_Mm)), c_X7_sum a0 a1 m = some z → ab_Met l g yX7_sum cX7_sum 8 (some .boolean) [] d2 [.ref a0, .int a1] m (.inl (some (.int z.1))) z.2) (hr11 : ∀ (l0 : Nat) (l1 : Int32) (l2 : Int32) (l3 : Int32) (l4 : Int32) (m : ab_Mm) (z : (Int32 × ab_Mm)), r11 l0 l1 l2 l3 l4 m = some z → ab_W l g cX7_sum RX7 8 (some .boolean) [] false (d2 + 1) (.inl (some (.int z.1))) z.2 11 [(0, .ref l0), (1, .int l1), (2, .int l2), (3, .int l3), (4, .int l4)] [] m) (l0 : Nat) (l1 : Int32) (l2 : Int32) (l4 : Int32) (l5 : Int32) (s0 : Int32) (m0 : ab_Mm) (z : (Int32 × ab_Mm)) (h : bb_X7_sum_48 c_X7_factor c_X7_sum r11 l0 l1 l2 l4 l5 s0 m0 = some z) : ab_W l g cX7_sum RX7 8 (some .boolean) [] false (d2 + 1) (.inl (some (.int z.1))) z.2 48 [(0, .ref l0), (1, .int l1), (2, .int l2), (4, .int l4), (5, .int l5)] [.int s0] m0 := by
  unfold bb_X7_sum_48 at h
  refine ru_istore dX7_sum_48 (by decide) <| ru_iload dX7_sum_50 rfl <| ru_bipush dX7_sum_52 kc_b_43 <| ?_
  refine ru_icmp_eq (tgt := 64) dX7_sum_54 (by decide) (fun hc => ?_) (fun hc => ?_)
  · rw [if_pos hc] at h
    exact ru_pick [0, 1, 2, 4, 5, 6] rfl (tbb_X7_sum_64 hl0 hd _ _ _ hc_X7_factor hc_X7_sum hr11 _ _ _ _ _ _ _ _ h)
  · rw [if_neg hc] at h
    refine ru_iload dX7_sum_57 rfl <| ru_bipush dX7_sum_59 kc_b_45 <| ?_
    refine ru_icmp_ne (tgt := 68) dX7_sum_61 (by decide) (fun hc => ?_) (fun hc => ?_)
    · rw [if_neg hc] at h
      refine ru_iconst dX7_sum_68 kc_i_0 <| ?_
      exact ru_pick [0, 1, 2, 4, 5, 6] rfl (tbb_X7_sum_69 hl0 hd _ _ _ hc_X7_factor hc_X7_sum hr11 _ _ _ _ _ _ _ _ _ h)
    · rw [if_pos hc] at h
      exact ru_pick [0, 1, 2, 4, 5, 6] rfl (tbb_X7_sum_64 hl0 hd _ _ _ hc_X7_factor hc_X7_sum hr11 _ _ _ _ _ _ _ _ h)
theorem tbb_X7_sum_43 {l : Launch} {g : ab_G} (hl0 : l.stackTraces = false) {d2 : Nat} (hd : 7 ≤ d2 + 1) (c_X7_factor : Nat → Int32 → ab_Mm → Option (Int32 × ab_Mm)) (c_X7_sum : Nat → Int32 → ab_Mm → Option (Int32 × ab_Mm)) (r11 : Nat → Int32 → Int32 → Int32 → Int32 → ab_Mm → Option (Int32 × ab_Mm)) (hc_X7_factor : ∀ (a0 : Nat) (a1 : Int32) (m : ab_Mm) (z : (Int32 × ab_Mm)), c_X7_factor a0 a1 m = some z → ab_Met l g yX7_factor cX7_factor 3 (some .boolean) [] d2 [.ref a0, .int a1] m (.inl (some (.int z.1))) z.2) (hc_X7_sum : ∀ (a0 : Nat) (a1 : Int32) (m : ab_Mm) (z : (Int32 × ab_Mm)), c_X7_sum a0 a1 m = some z → ab_Met l g yX7_sum cX7_sum 8 (some .boolean) [] d2 [.ref a0, .int a1] m (.inl (some (.int z.1))) z.2) (hr11 : ∀ (l0 : Nat) (l1 : Int32) (l2 : Int32) (l3 : Int32) (l4 : Int32) (m : ab_Mm) (z : (Int32 × ab_Mm)), r11 l0 l1 l2 l3 l4 m = some z → ab_W l g cX7_sum RX7 8 (some .boolean) [] false (d2 + 1) (.inl (some (.int z.1))) z.2 11 [(0, .ref l0), (1, .int l1), (2, .int l2), (3, .int l3), (4, .int l4)] [] m) (l0 : Nat) (l1 : Int32) (l2 : Int32) (l4 : Int32) (l5 : Int32) (m0 : ab_Mm) (z : (Int32 × ab_Mm)) (h : bb_X7_sum_43 c_X7_factor c_X7_sum r11 l0 l1 l2 l4 l5 m0 = some z) : ab_W l g cX7_sum RX7 8 (some .boolean) [] false (d2 + 1) (.inl (some (.int z.1))) z.2 43 [(0, .ref l0), (1, .int l1), (2, .int l2), (4, .int l4), (5, .int l5)] [] m0 := by
  unfold bb_X7_sum_43 at h
  refine ru_iconst dX7_sum_43 kc_i_1 <| ru_goto (tgt := 48) dX7_sum_44 (by decide) <| ?_
  exact ru_pick [0, 1, 2, 4, 5] rfl (tbb_X7_sum_48 hl0 hd _ _ _ hc_X7_factor hc_X7_sum hr11 _ _ _ _ _ _ _ _ h)
theorem tbb_X7_sum_11 {l : Launch} {g : ab_G} (hl0 : l.stackTraces = false) {d2 : Nat} (hd : 7 ≤ d2 + 1) (c_X7_factor : Nat → Int32 → ab_Mm → Option (Int32 × ab_Mm)) (c_X7_sum : Nat → Int32 → ab_Mm → Option (Int32 × ab_Mm)) (hc_X7_factor : ∀ (a0 : Nat) (a1 : Int32) (m : ab_Mm) (z : (Int32 × ab_Mm)), c_X7_factor a0 a1 m = some z → ab_Met l g yX7_factor cX7_factor 3 (some .boolean) [] d2 [.ref a0, .int a1] m (.inl (some (.int z.1))) z.2) (hc_X7_sum : ∀ (a0 : Nat) (a1 : Int32) (m : ab_Mm) (z : (Int32 × ab_Mm)), c_X7_sum a0 a1 m = some z → ab_Met l g yX7_sum cX7_sum 8 (some .boolean) [] d2 [.ref a0, .int a1] m (.inl (some (.int z.1))) z.2) : ∀ (n : Nat) (l0 : Nat) (l1 : Int32) (l2 : Int32) (l3 : Int32) (l4 : Int32) (m0 : ab_Mm) (z : (Int32 × ab_Mm)), bb_X7_sum_11 c_X7_factor c_X7_sum n l0 l1 l2 l3 l4 m0 = some z → ab_W l g cX7_sum RX7 8 (some .boolean) [] false (d2 + 1) (.inl (some (.int z.1))) z.2 11 [(0, .ref l0), (1, .int l1), (2, .int l2), (3, .int l3), (4, .int l4)] [] m0 := by
  intro n
  induction n with
  | zero => intro l0 l1 l2 l3 l4 m0 z h; cases h
  | succ n ih =>
    intro l0 l1 l2 l3 l4 m0 z h
    rw [bb_X7_sum_11] at h
    refine ru_iload dX7_sum_11 rfl <| ru_sipush dX7_sum_13 kc_s_800 <| ?_
    refine ru_icmp_gt (tgt := 146) dX7_sum_16 (by decide) (fun hc => ?_) (fun hc => ?_)
    · rw [if_pos hc] at h
      exact ru_pick [3] rfl (tbb_X7_sum_146 hl0 hd _ _ hc_X7_factor hc_X7_sum _ _ _ h)
    · rw [if_neg hc] at h
      refine ru_iload_n (i := 3) dX7_sum_19 rfl rfl <| ?_
      refine ru_if_eq (tgt := 146) dX7_sum_20 (by decide) (fun hc => ?_) (fun hc => ?_)
      · rw [if_pos hc] at h
        exact ru_pick [3] rfl (tbb_X7_sum_146 hl0 hd _ _ hc_X7_factor hc_X7_sum _ _ _ h)
      · rw [if_neg hc] at h
        refine ru_aload_n (i := 0) dX7_sum_23 rfl rfl <| ?_
        refine ru_getI h dX7_sum_24 lk_X7_44 ?_
        intro v1 h
        refine ru_istore dX7_sum_27 (by decide) <| ru_iload dX7_sum_29 rfl <| ru_bipush dX7_sum_31 kc_b_42 <| ?_
        refine ru_icmp_eq (tgt := 43) dX7_sum_33 (by decide) (fun hc => ?_) (fun hc => ?_)
        · rw [if_pos hc] at h
          exact ru_pick [0, 1, 2, 4, 5] rfl (tbb_X7_sum_43 hl0 hd _ _ _ hc_X7_factor hc_X7_sum ih _ _ _ _ _ _ _ h)
        · rw [if_neg hc] at h
          refine ru_iload dX7_sum_36 rfl <| ru_bipush dX7_sum_38 kc_b_47 <| ?_
          refine ru_icmp_ne (tgt := 47) dX7_sum_40 (by decide) (fun hc => ?_) (fun hc => ?_)
          · rw [if_neg hc] at h
            refine ru_iconst dX7_sum_47 kc_i_0 <| ?_
            exact ru_pick [0, 1, 2, 4, 5] rfl (tbb_X7_sum_48 hl0 hd _ _ _ hc_X7_factor hc_X7_sum ih _ _ _ _ _ _ _ _ h)
          · rw [if_pos hc] at h
            exact ru_pick [0, 1, 2, 4, 5] rfl (tbb_X7_sum_43 hl0 hd _ _ _ hc_X7_factor hc_X7_sum ih _ _ _ _ _ _ _ h)
theorem te_X7_sum {l : Launch} {g : ab_G} (hl0 : l.stackTraces = false) {d2 : Nat} (hd : 7 ≤ d2 + 1) (c_X7_factor : Nat → Int32 → ab_Mm → Option (Int32 × ab_Mm)) (c_X7_sum : Nat → Int32 → ab_Mm → Option (Int32 × ab_Mm)) (hc_X7_factor : ∀ (a0 : Nat) (a1 : Int32) (m : ab_Mm) (z : (Int32 × ab_Mm)), c_X7_factor a0 a1 m = some z → ab_Met l g yX7_factor cX7_factor 3 (some .boolean) [] d2 [.ref a0, .int a1] m (.inl (some (.int z.1))) z.2) (hc_X7_sum : ∀ (a0 : Nat) (a1 : Int32) (m : ab_Mm) (z : (Int32 × ab_Mm)), c_X7_sum a0 a1 m = some z → ab_Met l g yX7_sum cX7_sum 8 (some .boolean) [] d2 [.ref a0, .int a1] m (.inl (some (.int z.1))) z.2) (l0 : Nat) (l1 : Int32) (m0 : ab_Mm) (z : (Int32 × ab_Mm)) (h : st_X7_sum c_X7_factor c_X7_sum l0 l1 m0 = some z) : ab_W l g cX7_sum RX7 8 (some .boolean) [] false (d2 + 1) (.inl (some (.int z.1))) z.2 0 [(0, .ref l0), (1, .int l1)] [] m0 := by
  unfold st_X7_sum at h
  refine ru_iconst dX7_sum_0 kc_i_0 <| ru_istore_n (i := 2) dX7_sum_1 rfl (by decide) <| ru_aload_n (i := 0) dX7_sum_2 rfl rfl <| ru_iload_n (i := 1) dX7_sum_3 rfl rfl <| ?_
  obtain ⟨_, hrc, h⟩ := Option.bind_eq_some_iff.mp h
  obtain ⟨q1, hq1, h⟩ := Option.bind_eq_some_iff.mp h
  refine ru_callV (hc_X7_factor _ _ _ _ hq1) dX7_sum_4 rfl pm_X7_167 mf_X7_factor (ab_rcv_of hrc rfl) rfl rfl (Nat.le_of_ble_eq_true rfl) ?_
  refine ru_istore_n (i := 3) dX7_sum_7 rfl (by decide) <| ru_iconst dX7_sum_8 kc_i_0 <| ru_istore dX7_sum_9 (by decide) <| ?_
  exact ru_pick [0, 1, 2, 3, 4] rfl (tbb_X7_sum_11 hl0 hd _ _ hc_X7_factor hc_X7_sum _ _ _ _ _ _ _ _ h)
theorem tg_X7_factor {l : Launch} {g : ab_G} (hl0 : l.stackTraces = false) : ∀ n : Nat, (∀ d, n + 7 ≤ d → ∀ (a0 : Nat) (a1 : Int32) (m : ab_Mm) (z : (Int32 × ab_Mm)), dd_X7_factor n a0 a1 m = some z → ab_Met l g yX7_factor cX7_factor 3 (some .boolean) [] d [.ref a0, .int a1] m (.inl (some (.int z.1))) z.2) ∧ (∀ d, n + 7 ≤ d → ∀ (a0 : Nat) (a1 : Int32) (m : ab_Mm) (z : (Int32 × ab_Mm)), dd_X7_sum n a0 a1 m = some z → ab_Met l g yX7_sum cX7_sum 8 (some .boolean) [] d [.ref a0, .int a1] m (.inl (some (.int z.1))) z.2) := by
  intro n
  induction n with
  | zero => exact ⟨fun d hd _ _ m z h => (by cases h), fun d hd _ _ m z h => (by cases h)⟩
  | succ n ih =>
    refine ⟨?_, ?_⟩
    · intro d hd a0 a1 m z h
      obtain ⟨d2, rfl⟩ : ∃ d2, d = d2 + 1 := ⟨d - 1, by omega⟩
      exact ab_of hl0 (by decide +kernel) (Nat.le_of_ble_eq_true rfl) (fun q => by cases q) rfl (te_X7_factor hl0 (by omega) _ _ (fun b0 b1 m z h => ih.1 d2 (by omega) b0 b1 m z h) (fun b0 b1 m z h => ih.2 d2 (by omega) b0 b1 m z h) _ _ _ _ h)
    · intro d hd a0 a1 m z h
      obtain ⟨d2, rfl⟩ : ∃ d2, d = d2 + 1 := ⟨d - 1, by omega⟩
      exact ab_of hl0 (by decide +kernel) (Nat.le_of_ble_eq_true rfl) (fun q => by cases q) rfl (te_X7_sum hl0 (by omega) _ _ (fun b0 b1 m z h => ih.1 d2 (by omega) b0 b1 m z h) (fun b0 b1 m z h => ih.2 d2 (by omega) b0 b1 m z h) _ _ _ _ h)
theorem tm_X7_factor {l : Launch} {g : ab_G} (hl0 : l.stackTraces = false) {d : Nat} (hd : 37 ≤ d) {a0 : Nat} {a1 : Int32} {m : ab_Mm} {z : (Int32 × ab_Mm)} (h : dd_X7_factor 30 a0 a1 m = some z) : ab_Met l g yX7_factor cX7_factor 3 (some .boolean) [] d [.ref a0, .int a1] m (.inl (some (.int z.1))) z.2 := (tg_X7_factor hl0 30).1 d (by omega) a0 a1 m z h
theorem tm_X7_sum {l : Launch} {g : ab_G} (hl0 : l.stackTraces = false) {d : Nat} (hd : 37 ≤ d) {a0 : Nat} {a1 : Int32} {m : ab_Mm} {z : (Int32 × ab_Mm)} (h : dd_X7_sum 30 a0 a1 m = some z) : ab_Met l g yX7_sum cX7_sum 8 (some .boolean) [] d [.ref a0, .int a1] m (.inl (some (.int z.1))) z.2 := (tg_X7_factor hl0 30).2 d (by omega) a0 a1 m z h
theorem tbb_X7_statement_427 {l : Launch} {g : ab_G} (hl0 : l.stackTraces = false) {d2 : Nat} (hd : 38 ≤ d2 + 1)   (s0 : Int32) (m0 : ab_Mm) (z : (Int32 × ab_Mm)) (h : bb_X7_statement_427  s0 m0 = some z) : ab_W l g cX7_statement RX7 1 (some .boolean) [] false (d2 + 1) (.inl (some (.int z.1))) z.2 427 [] [.int s0] m0 := by
  unfold bb_X7_statement_427 at h
  rcases ab_iff h with ⟨hc, h⟩ | ⟨hc, h⟩
  · cases h
  cases h
  exact ru_ret (v := some (.int _)) ⟨_, rfl, congrArg Value.int (Classical.not_not.mp hc), dX7_statement_427⟩
theorem tbb_X7_statement_426 {l : Launch} {g : ab_G} (hl0 : l.stackTraces = false) {d2 : Nat} (hd : 38 ≤ d2 + 1)    (m0 : ab_Mm) (z : (Int32 × ab_Mm)) (h : bb_X7_statement_426   m0 = some z) : ab_W l g cX7_statement RX7 1 (some .boolean) [] false (d2 + 1) (.inl (some (.int z.1))) z.2 426 [] [] m0 := by
  unfold bb_X7_statement_426 at h
  refine ru_iconst dX7_statement_426 kc_i_0 <| ?_
  exact ru_pick [] rfl (tbb_X7_statement_427 hl0 hd   _ _ _ h)
theorem tbb_X7_statement_385 {l : Launch} {g : ab_G} (hl0 : l.stackTraces = false) {d2 : Nat} (hd : 38 ≤ d2 + 1)   (s0 : Int32) (m0 : ab_Mm) (z : (Int32 × ab_Mm)) (h : bb_X7_statement_385  s0 m0 = some z) : ab_W l g cX7_statement RX7 1 (some .boolean) [] false (d2 + 1) (.inl (some (.int z.1))) z.2 385 [] [.int s0] m0 := by
  unfold bb_X7_statement_385 at h
  rcases ab_iff h with ⟨hc, h⟩ | ⟨hc, h⟩
  · cases h
  cases h
  exact ru_ret (v := some (.int _)) ⟨_, rfl, congrArg Value.int (Classical.not_not.mp hc), dX7_statement_385⟩
theorem tbb_X7_statement_384 {l : Launch} {g : ab_G} (hl0 : l.stackTraces = false) {d2 : Nat} (hd : 38 ≤ d2 + 1)    (m0 : ab_Mm) (z : (Int32 × ab_Mm)) (h : bb_X7_statement_384   m0 = some z) : ab_W l g cX7_statement RX7 1 (some .boolean) [] false (d2 + 1) (.inl (some (.int z.1))) z.2 384 [] [] m0 := by
  unfold bb_X7_statement_384 at h
  refine ru_iconst dX7_statement_384 kc_i_0 <| ?_
  exact ru_pick [] rfl (tbb_X7_statement_385 hl0 hd   _ _ _ h)
theorem tbb_X7_statement_343 {l : Launch} {g : ab_G} (hl0 : l.stackTraces = false) {d2 : Nat} (hd : 38 ≤ d2 + 1)   (s0 : Int32) (m0 : ab_Mm) (z : (Int32 × ab_Mm)) (h : bb_X7_statement_343  s0 m0 = some z) : ab_W l g cX7_statement RX7 1 (some .boolean) [] false (d2 + 1) (.inl (some (.int z.1))) z.2 343 [] [.int s0] m0 := by
  unfold bb_X7_statement_343 at h
  rcases ab_iff h with ⟨hc, h⟩ | ⟨hc, h⟩
  · cases h
  cases h
  exact ru_ret (v := some (.int _)) ⟨_, rfl, congrArg Value.int (Classical.not_not.mp hc), dX7_statement_343⟩
theorem tbb_X7_statement_342 {l : Launch} {g : ab_G} (hl0 : l.stackTraces = false) {d2 : Nat} (hd : 38 ≤ d2 + 1)    (m0 : ab_Mm) (z : (Int32 × ab_Mm)) (h : bb_X7_statement_342   m0 = some z) : ab_W l g cX7_statement RX7 1 (some .boolean) [] false (d2 + 1) (.inl (some (.int z.1))) z.2 342 [] [] m0 := by
  unfold bb_X7_statement_342 at h
  refine ru_iconst dX7_statement_342 kc_i_0 <| ?_
  exact ru_pick [] rfl (tbb_X7_statement_343 hl0 hd   _ _ _ h)
theorem tbb_X7_statement_302 {l : Launch} {g : ab_G} (hl0 : l.stackTraces = false) {d2 : Nat} (hd : 38 ≤ d2 + 1)   (s0 : Int32) (m0 : ab_Mm) (z : (Int32 × ab_Mm)) (h : bb_X7_statement_302  s0 m0 = some z) : ab_W l g cX7_statement RX7 1 (some .boolean) [] false (d2 + 1) (.inl (some (.int z.1))) z.2 302 [] [.int s0] m0 := by
  unfold bb_X7_statement_302 at h
  rcases ab_iff h with ⟨hc, h⟩ | ⟨hc, h⟩
  · cases h
  cases h
  exact ru_ret (v := some (.int _)) ⟨_, rfl, congrArg Value.int (Classical.not_not.mp hc), dX7_statement_302⟩
theorem tbb_X7_statement_301 {l : Launch} {g : ab_G} (hl0 : l.stackTraces = false) {d2 : Nat} (hd : 38 ≤ d2 + 1)    (m0 : ab_Mm) (z : (Int32 × ab_Mm)) (h : bb_X7_statement_301   m0 = some z) : ab_W l g cX7_statement RX7 1 (some .boolean) [] false (d2 + 1) (.inl (some (.int z.1))) z.2 301 [] [] m0 := by
  unfold bb_X7_statement_301 at h
  refine ru_iconst dX7_statement_301 kc_i_0 <| ?_
  exact ru_pick [] rfl (tbb_X7_statement_302 hl0 hd   _ _ _ h)
theorem tbb_X7_statement_240 {l : Launch} {g : ab_G} (hl0 : l.stackTraces = false) {d2 : Nat} (hd : 38 ≤ d2 + 1)   (s0 : Int32) (m0 : ab_Mm) (z : (Int32 × ab_Mm)) (h : bb_X7_statement_240  s0 m0 = some z) : ab_W l g cX7_statement RX7 1 (some .boolean) [] false (d2 + 1) (.inl (some (.int z.1))) z.2 240 [] [.int s0] m0 := by
  unfold bb_X7_statement_240 at h
  rcases ab_iff h with ⟨hc, h⟩ | ⟨hc, h⟩
  · cases h
  cases h
  exact ru_ret (v := some (.int _)) ⟨_, rfl, congrArg Value.int (Classical.not_not.mp hc), dX7_statement_240⟩
theorem tbb_X7_statement_239 {l : Launch} {g : ab_G} (hl0 : l.stackTraces = false) {d2 : Nat} (hd : 38 ≤ d2 + 1)    (m0 : ab_Mm) (z : (Int32 × ab_Mm)) (h : bb_X7_statement_239   m0 = some z) : ab_W l g cX7_statement RX7 1 (some .boolean) [] false (d2 + 1) (.inl (some (.int z.1))) z.2 239 [] [] m0 := by
  unfold bb_X7_statement_239 at h
  refine ru_iconst dX7_statement_239 kc_i_0 <| ?_
  exact ru_pick [] rfl (tbb_X7_statement_240 hl0 hd   _ _ _ h)
theorem tbb_X7_statement_178 {l : Launch} {g : ab_G} (hl0 : l.stackTraces = false) {d2 : Nat} (hd : 38 ≤ d2 + 1)   (s0 : Int32) (m0 : ab_Mm) (z : (Int32 × ab_Mm)) (h : bb_X7_statement_178  s0 m0 = some z) : ab_W l g cX7_statement RX7 1 (some .boolean) [] false (d2 + 1) (.inl (some (.int z.1))) z.2 178 [] [.int s0] m0 := by
  unfold bb_X7_statement_178 at h
  rcases ab_iff h with ⟨hc, h⟩ | ⟨hc, h⟩
  · cases h
  cases h
  exact ru_ret (v := some (.int _)) ⟨_, rfl, congrArg Value.int (Classical.not_not.mp hc), dX7_statement_178⟩
theorem tbb_X7_statement_177 {l : Launch} {g : ab_G} (hl0 : l.stackTraces = false) {d2 : Nat} (hd : 38 ≤ d2 + 1)    (m0 : ab_Mm) (z : (Int32 × ab_Mm)) (h : bb_X7_statement_177   m0 = some z) : ab_W l g cX7_statement RX7 1 (some .boolean) [] false (d2 + 1) (.inl (some (.int z.1))) z.2 177 [] [] m0 := by
  unfold bb_X7_statement_177 at h
  refine ru_iconst dX7_statement_177 kc_i_0 <| ?_
  exact ru_pick [] rfl (tbb_X7_statement_178 hl0 hd   _ _ _ h)
theorem tbb_X7_statement_79 {l : Launch} {g : ab_G} (hl0 : l.stackTraces = false) {d2 : Nat} (hd : 38 ≤ d2 + 1)   (s0 : Int32) (m0 : ab_Mm) (z : (Int32 × ab_Mm)) (h : bb_X7_statement_79  s0 m0 = some z) : ab_W l g cX7_statement RX7 1 (some .boolean) [] false (d2 + 1) (.inl (some (.int z.1))) z.2 79 [] [.int s0] m0 := by
  unfold bb_X7_statement_79 at h
  rcases ab_iff h with ⟨hc, h⟩ | ⟨hc, h⟩
  · cases h
  cases h
  exact ru_ret (v := some (.int _)) ⟨_, rfl, congrArg Value.int (Classical.not_not.mp hc), dX7_statement_79⟩
theorem tbb_X7_statement_78 {l : Launch} {g : ab_G} (hl0 : l.stackTraces = false) {d2 : Nat} (hd : 38 ≤ d2 + 1)    (m0 : ab_Mm) (z : (Int32 × ab_Mm)) (h : bb_X7_statement_78   m0 = some z) : ab_W l g cX7_statement RX7 1 (some .boolean) [] false (d2 + 1) (.inl (some (.int z.1))) z.2 78 [] [] m0 := by
  unfold bb_X7_statement_78 at h
  refine ru_iconst dX7_statement_78 kc_i_0 <| ?_
  exact ru_pick [] rfl (tbb_X7_statement_79 hl0 hd   _ _ _ h)
theorem te_X7_statement {l : Launch} {g : ab_G} (hl0 : l.stackTraces = false) {d2 : Nat} (hd : 38 ≤ d2 + 1)   (l0 : Nat) (m0 : ab_Mm) (z : (Int32 × ab_Mm)) (h : dd_X7_statement  l0 m0 = some z) : ab_W l g cX7_statement RX7 1 (some .boolean) [] false (d2 + 1) (.inl (some (.int z.1))) z.2 0 [(0, .ref l0)] [] m0 := by
  unfold dd_X7_statement at h
  refine ru_aload_n (i := 0) dX7_statement_0 rfl rfl <| ru_ldcS (i := 0) (tx := "host") dX7_statement_1 (by decide +kernel) <| ?_
  obtain ⟨_, hrc, h⟩ := Option.bind_eq_some_iff.mp h
  obtain ⟨q1, hq1, h⟩ := Option.bind_eq_some_iff.mp h
  refine ru_callV (tm_X7_isWord hl0 (by omega) hq1) dX7_statement_3 rfl pm_X7_79 mf_X7_isWord (ab_rcv_of hrc rfl) rfl rfl (Nat.le_of_ble_eq_true rfl) ?_
  refine ru_if_eq (tgt := 80) dX7_statement_6 (by decide) (fun hc => ?_) (fun hc => ?_)
  · rw [if_pos hc] at h
    refine ru_aload_n (i := 0) dX7_statement_80 rfl rfl <| ru_ldcS (i := 1) (tx := "type") dX7_statement_81 (by decide +kernel) <| ?_
    obtain ⟨_, hrc, h⟩ := Option.bind_eq_some_iff.mp h
    obtain ⟨q2, hq2, h⟩ := Option.bind_eq_some_iff.mp h
    refine ru_callV (tm_X7_isWord hl0 (by omega) hq2) dX7_statement_83 rfl pm_X7_79 mf_X7_isWord (ab_rcv_of hrc rfl) rfl rfl (Nat.le_of_ble_eq_true rfl) ?_
    refine ru_if_eq (tgt := 179) dX7_statement_86 (by decide) (fun hc => ?_) (fun hc => ?_)
    · rw [if_pos hc] at h
      refine ru_aload_n (i := 0) dX7_statement_179 rfl rfl <| ru_ldcS (i := 2) (tx := "tenant") dX7_statement_180 (by decide +kernel) <| ?_
      obtain ⟨_, hrc, h⟩ := Option.bind_eq_some_iff.mp h
      obtain ⟨q3, hq3, h⟩ := Option.bind_eq_some_iff.mp h
      refine ru_callV (tm_X7_isWord hl0 (by omega) hq3) dX7_statement_182 rfl pm_X7_79 mf_X7_isWord (ab_rcv_of hrc rfl) rfl rfl (Nat.le_of_ble_eq_true rfl) ?_
      refine ru_if_eq (tgt := 241) dX7_statement_185 (by decide) (fun hc => ?_) (fun hc => ?_)
      · rw [if_pos hc] at h
        refine ru_aload_n (i := 0) dX7_statement_241 rfl rfl <| ru_ldcS (i := 3) (tx := "reserve") dX7_statement_242 (by decide +kernel) <| ?_
        obtain ⟨_, hrc, h⟩ := Option.bind_eq_some_iff.mp h
        obtain ⟨q4, hq4, h⟩ := Option.bind_eq_some_iff.mp h
        refine ru_callV (tm_X7_isWord hl0 (by omega) hq4) dX7_statement_244 rfl pm_X7_79 mf_X7_isWord (ab_rcv_of hrc rfl) rfl rfl (Nat.le_of_ble_eq_true rfl) ?_
        refine ru_if_eq (tgt := 262) dX7_statement_247 (by decide) (fun hc => ?_) (fun hc => ?_)
        · rw [if_pos hc] at h
          refine ru_aload_n (i := 0) dX7_statement_262 rfl rfl <| ru_ldcS (i := 4) (tx := "floor") dX7_statement_263 (by decide +kernel) <| ?_
          obtain ⟨_, hrc, h⟩ := Option.bind_eq_some_iff.mp h
          obtain ⟨q5, hq5, h⟩ := Option.bind_eq_some_iff.mp h
          refine ru_callV (tm_X7_isWord hl0 (by omega) hq5) dX7_statement_265 rfl pm_X7_79 mf_X7_isWord (ab_rcv_of hrc rfl) rfl rfl (Nat.le_of_ble_eq_true rfl) ?_
          refine ru_if_eq (tgt := 303) dX7_statement_268 (by decide) (fun hc => ?_) (fun hc => ?_)
          · rw [if_pos hc] at h
            refine ru_aload_n (i := 0) dX7_statement_303 rfl rfl <| ru_ldcS (i := 5) (tx := "notice") dX7_statement_304 (by decide +kernel) <| ?_
            obtain ⟨_, hrc, h⟩ := Option.bind_eq_some_iff.mp h
            obtain ⟨q6, hq6, h⟩ := Option.bind_eq_some_iff.mp h
            refine ru_callV (tm_X7_isWord hl0 (by omega) hq6) dX7_statement_306 rfl pm_X7_79 mf_X7_isWord (ab_rcv_of hrc rfl) rfl rfl (Nat.le_of_ble_eq_true rfl) ?_
            refine ru_if_eq (tgt := 344) dX7_statement_309 (by decide) (fun hc => ?_) (fun hc => ?_)
            · rw [if_pos hc] at h
              refine ru_aload_n (i := 0) dX7_statement_344 rfl rfl <| ru_ldcS (i := 6) (tx := "slope") dX7_statement_345 (by decide +kernel) <| ?_
              obtain ⟨_, hrc, h⟩ := Option.bind_eq_some_iff.mp h
              obtain ⟨q7, hq7, h⟩ := Option.bind_eq_some_iff.mp h
              refine ru_callV (tm_X7_isWord hl0 (by omega) hq7) dX7_statement_347 rfl pm_X7_79 mf_X7_isWord (ab_rcv_of hrc rfl) rfl rfl (Nat.le_of_ble_eq_true rfl) ?_
              refine ru_if_eq (tgt := 386) dX7_statement_350 (by decide) (fun hc => ?_) (fun hc => ?_)
              · rw [if_pos hc] at h
                refine ru_aload_n (i := 0) dX7_statement_386 rfl rfl <| ru_ldcS (i := 7) (tx := "move") dX7_statement_387 (by decide +kernel) <| ?_
                obtain ⟨_, hrc, h⟩ := Option.bind_eq_some_iff.mp h
                obtain ⟨q8, hq8, h⟩ := Option.bind_eq_some_iff.mp h
                refine ru_callV (tm_X7_isWord hl0 (by omega) hq8) dX7_statement_389 rfl pm_X7_79 mf_X7_isWord (ab_rcv_of hrc rfl) rfl rfl (Nat.le_of_ble_eq_true rfl) ?_
                refine ru_if_eq (tgt := 428) dX7_statement_392 (by decide) (fun hc => ?_) (fun hc => ?_)
                · rw [if_pos hc] at h
                  refine ru_aload_n (i := 0) dX7_statement_428 rfl rfl <| ru_iconst dX7_statement_429 kc_i_1 <| ?_
                  obtain ⟨_, hrc, h⟩ := Option.bind_eq_some_iff.mp h
                  obtain ⟨q9, hq9, h⟩ := Option.bind_eq_some_iff.mp h
                  refine ru_callV (tm_X7_fail hl0 (by omega) hq9) dX7_statement_430 rfl pm_X7_141 mf_X7_fail (ab_rcv_of hrc rfl) rfl rfl (Nat.le_of_ble_eq_true rfl) ?_
                  rcases ab_iff h with ⟨hc, h⟩ | ⟨hc, h⟩
                  · cases h
                  cases h
                  exact ru_ret (v := some (.int _)) ⟨_, rfl, congrArg Value.int (Classical.not_not.mp hc), dX7_statement_433⟩
                · rw [if_neg hc] at h
                  refine ru_aload_n (i := 0) dX7_statement_395 rfl rfl <| ?_
                  refine ru_getR h dX7_statement_396 lk_X7_25 ?_
                  intro v10 h
                  refine ru_getR h dX7_statement_399 lk_X7_130 ?_
                  intro v11 h
                  obtain ⟨_, hrc, h⟩ := Option.bind_eq_some_iff.mp h
                  obtain ⟨q12, hq12, h⟩ := Option.bind_eq_some_iff.mp h
                  refine ru_callV (tm_X9_clear hl0 (by omega) hq12) dX7_statement_402 rfl pm_X7_133 mf_X9_clear (ab_rcv_of hrc rfl) rfl rfl (Nat.le_of_ble_eq_true rfl) ?_
                  refine ru_aload_n (i := 0) dX7_statement_405 rfl rfl <| ru_bipush dX7_statement_406 kc_b_8 <| ?_
                  obtain ⟨_, hrc, h⟩ := Option.bind_eq_some_iff.mp h
                  obtain ⟨q13, hq13, h⟩ := Option.bind_eq_some_iff.mp h
                  refine ru_callV (tm_X7_isFirst hl0 (by omega) hq13) dX7_statement_408 rfl pm_X7_118 mf_X7_isFirst (ab_rcv_of hrc rfl) rfl rfl (Nat.le_of_ble_eq_true rfl) ?_
                  refine ru_if_eq (tgt := 426) dX7_statement_411 (by decide) (fun hc => ?_) (fun hc => ?_)
                  · rw [if_pos hc] at h
                    exact ru_pick [] rfl (tbb_X7_statement_426 hl0 hd    _ _ h)
                  · rw [if_neg hc] at h
                    refine ru_aload_n (i := 0) dX7_statement_414 rfl rfl <| ru_iconst dX7_statement_415 kc_i_0 <| ?_
                    obtain ⟨_, hrc, h⟩ := Option.bind_eq_some_iff.mp h
                    obtain ⟨q14, hq14, h⟩ := Option.bind_eq_some_iff.mp h
                    refine ru_callV (tm_X7_sum hl0 (by omega) hq14) dX7_statement_416 rfl pm_X7_138 mf_X7_sum (ab_rcv_of hrc rfl) rfl rfl (Nat.le_of_ble_eq_true rfl) ?_
                    refine ru_if_eq (tgt := 426) dX7_statement_419 (by decide) (fun hc => ?_) (fun hc => ?_)
                    · rw [if_pos hc] at h
                      exact ru_pick [] rfl (tbb_X7_statement_426 hl0 hd    _ _ h)
                    · rw [if_neg hc] at h
                      refine ru_iconst dX7_statement_422 kc_i_1 <| ru_goto (tgt := 427) dX7_statement_423 (by decide) <| ?_
                      exact ru_pick [] rfl (tbb_X7_statement_427 hl0 hd   _ _ _ h)
              · rw [if_neg hc] at h
                refine ru_aload_n (i := 0) dX7_statement_353 rfl rfl <| ru_iconst dX7_statement_354 kc_i_4 <| ?_
                obtain ⟨_, hrc, h⟩ := Option.bind_eq_some_iff.mp h
                obtain ⟨q15, hq15, h⟩ := Option.bind_eq_some_iff.mp h
                refine ru_callV (tm_X7_isFirst hl0 (by omega) hq15) dX7_statement_355 rfl pm_X7_118 mf_X7_isFirst (ab_rcv_of hrc rfl) rfl rfl (Nat.le_of_ble_eq_true rfl) ?_
                refine ru_if_eq (tgt := 384) dX7_statement_358 (by decide) (fun hc => ?_) (fun hc => ?_)
                · rw [if_pos hc] at h
                  exact ru_pick [] rfl (tbb_X7_statement_384 hl0 hd    _ _ h)
                · rw [if_neg hc] at h
                  refine ru_aload_n (i := 0) dX7_statement_361 rfl rfl <| ru_aload_n (i := 0) dX7_statement_362 rfl rfl <| ?_
                  refine ru_getR h dX7_statement_363 lk_X7_25 ?_
                  intro v16 h
                  refine ru_getR h dX7_statement_366 lk_X7_121 ?_
                  intro v17 h
                  refine ru_iconst dX7_statement_369 kc_i_2 <| ru_iconst dX7_statement_370 kc_i_0 <| ru_sipush dX7_statement_371 kc_s_400 <| ?_
                  obtain ⟨_, hrc, h⟩ := Option.bind_eq_some_iff.mp h
                  obtain ⟨q18, hq18, h⟩ := Option.bind_eq_some_iff.mp h
                  refine ru_callV (tm_X7_puts hl0 (by omega) hq18) dX7_statement_374 rfl pm_X7_91 mf_X7_puts (ab_rcv_of hrc rfl) rfl rfl (Nat.le_of_ble_eq_true rfl) ?_
                  refine ru_if_eq (tgt := 384) dX7_statement_377 (by decide) (fun hc => ?_) (fun hc => ?_)
                  · rw [if_pos hc] at h
                    exact ru_pick [] rfl (tbb_X7_statement_384 hl0 hd    _ _ h)
                  · rw [if_neg hc] at h
                    refine ru_iconst dX7_statement_380 kc_i_1 <| ru_goto (tgt := 385) dX7_statement_381 (by decide) <| ?_
                    exact ru_pick [] rfl (tbb_X7_statement_385 hl0 hd   _ _ _ h)
            · rw [if_neg hc] at h
              refine ru_aload_n (i := 0) dX7_statement_312 rfl rfl <| ru_iconst dX7_statement_313 kc_i_2 <| ?_
              obtain ⟨_, hrc, h⟩ := Option.bind_eq_some_iff.mp h
              obtain ⟨q19, hq19, h⟩ := Option.bind_eq_some_iff.mp h
              refine ru_callV (tm_X7_isFirst hl0 (by omega) hq19) dX7_statement_314 rfl pm_X7_118 mf_X7_isFirst (ab_rcv_of hrc rfl) rfl rfl (Nat.le_of_ble_eq_true rfl) ?_
              refine ru_if_eq (tgt := 342) dX7_statement_317 (by decide) (fun hc => ?_) (fun hc => ?_)
              · rw [if_pos hc] at h
                exact ru_pick [] rfl (tbb_X7_statement_342 hl0 hd    _ _ h)
              · rw [if_neg hc] at h
                refine ru_aload_n (i := 0) dX7_statement_320 rfl rfl <| ru_aload_n (i := 0) dX7_statement_321 rfl rfl <| ?_
                refine ru_getR h dX7_statement_322 lk_X7_25 ?_
                intro v20 h
                refine ru_getR h dX7_statement_325 lk_X7_121 ?_
                intro v21 h
                refine ru_iconst dX7_statement_328 kc_i_1 <| ru_iconst dX7_statement_329 kc_i_0 <| ru_bipush dX7_statement_330 kc_b_48 <| ?_
                obtain ⟨_, hrc, h⟩ := Option.bind_eq_some_iff.mp h
                obtain ⟨q22, hq22, h⟩ := Option.bind_eq_some_iff.mp h
                refine ru_callV (tm_X7_puts hl0 (by omega) hq22) dX7_statement_332 rfl pm_X7_91 mf_X7_puts (ab_rcv_of hrc rfl) rfl rfl (Nat.le_of_ble_eq_true rfl) ?_
                refine ru_if_eq (tgt := 342) dX7_statement_335 (by decide) (fun hc => ?_) (fun hc => ?_)
                · rw [if_pos hc] at h
                  exact ru_pick [] rfl (tbb_X7_statement_342 hl0 hd    _ _ h)
                · rw [if_neg hc] at h
                  refine ru_iconst dX7_statement_338 kc_i_1 <| ru_goto (tgt := 343) dX7_statement_339 (by decide) <| ?_
                  exact ru_pick [] rfl (tbb_X7_statement_343 hl0 hd   _ _ _ h)
          · rw [if_neg hc] at h
            refine ru_aload_n (i := 0) dX7_statement_271 rfl rfl <| ru_iconst dX7_statement_272 kc_i_1 <| ?_
            obtain ⟨_, hrc, h⟩ := Option.bind_eq_some_iff.mp h
            obtain ⟨q23, hq23, h⟩ := Option.bind_eq_some_iff.mp h
            refine ru_callV (tm_X7_isFirst hl0 (by omega) hq23) dX7_statement_273 rfl pm_X7_118 mf_X7_isFirst (ab_rcv_of hrc rfl) rfl rfl (Nat.le_of_ble_eq_true rfl) ?_
            refine ru_if_eq (tgt := 301) dX7_statement_276 (by decide) (fun hc => ?_) (fun hc => ?_)
            · rw [if_pos hc] at h
              exact ru_pick [] rfl (tbb_X7_statement_301 hl0 hd    _ _ h)
            · rw [if_neg hc] at h
              refine ru_aload_n (i := 0) dX7_statement_279 rfl rfl <| ru_aload_n (i := 0) dX7_statement_280 rfl rfl <| ?_
              refine ru_getR h dX7_statement_281 lk_X7_25 ?_
              intro v24 h
              refine ru_getR h dX7_statement_284 lk_X7_121 ?_
              intro v25 h
              refine ru_iconst dX7_statement_287 kc_i_0 <| ru_iconst dX7_statement_288 kc_i_1 <| ru_bipush dX7_statement_289 kc_b_100 <| ?_
              obtain ⟨_, hrc, h⟩ := Option.bind_eq_some_iff.mp h
              obtain ⟨q26, hq26, h⟩ := Option.bind_eq_some_iff.mp h
              refine ru_callV (tm_X7_puts hl0 (by omega) hq26) dX7_statement_291 rfl pm_X7_91 mf_X7_puts (ab_rcv_of hrc rfl) rfl rfl (Nat.le_of_ble_eq_true rfl) ?_
              refine ru_if_eq (tgt := 301) dX7_statement_294 (by decide) (fun hc => ?_) (fun hc => ?_)
              · rw [if_pos hc] at h
                exact ru_pick [] rfl (tbb_X7_statement_301 hl0 hd    _ _ h)
              · rw [if_neg hc] at h
                refine ru_iconst dX7_statement_297 kc_i_1 <| ru_goto (tgt := 302) dX7_statement_298 (by decide) <| ?_
                exact ru_pick [] rfl (tbb_X7_statement_302 hl0 hd   _ _ _ h)
        · rw [if_neg hc] at h
          refine ru_aload_n (i := 0) dX7_statement_250 rfl rfl <| ru_aload_n (i := 0) dX7_statement_251 rfl rfl <| ?_
          refine ru_getR h dX7_statement_252 lk_X7_25 ?_
          intro v27 h
          refine ru_getR h dX7_statement_255 lk_X7_110 ?_
          intro v28 h
          obtain ⟨_, hrc, h⟩ := Option.bind_eq_some_iff.mp h
          obtain ⟨q29, hq29, h⟩ := Option.bind_eq_some_iff.mp h
          refine ru_callV (tm_X7_reservation hl0 (by omega) hq29) dX7_statement_258 rfl pm_X7_113 mf_X7_reservation (ab_rcv_of hrc rfl) rfl rfl (Nat.le_of_ble_eq_true rfl) ?_
          rcases ab_iff h with ⟨hc, h⟩ | ⟨hc, h⟩
          · cases h
          cases h
          exact ru_ret (v := some (.int _)) ⟨_, rfl, congrArg Value.int (Classical.not_not.mp hc), dX7_statement_261⟩
      · rw [if_neg hc] at h
        refine ru_aload_n (i := 0) dX7_statement_188 rfl rfl <| ru_aload_n (i := 0) dX7_statement_189 rfl rfl <| ?_
        refine ru_getR h dX7_statement_190 lk_X7_25 ?_
        intro v30 h
        refine ru_getR h dX7_statement_193 lk_X7_105 ?_
        intro v31 h
        obtain ⟨_, hrc, h⟩ := Option.bind_eq_some_iff.mp h
        obtain ⟨q32, hq32, h⟩ := Option.bind_eq_some_iff.mp h
        refine ru_callV (tm_X7_opens hl0 (by omega) hq32) dX7_statement_196 rfl pm_X7_87 mf_X7_opens (ab_rcv_of hrc rfl) rfl rfl (Nat.le_of_ble_eq_true rfl) ?_
        refine ru_if_eq (tgt := 239) dX7_statement_199 (by decide) (fun hc => ?_) (fun hc => ?_)
        · rw [if_pos hc] at h
          exact ru_pick [] rfl (tbb_X7_statement_239 hl0 hd    _ _ h)
        · rw [if_neg hc] at h
          refine ru_aload_n (i := 0) dX7_statement_202 rfl rfl <| ru_aload_n (i := 0) dX7_statement_203 rfl rfl <| ?_
          refine ru_getR h dX7_statement_204 lk_X7_25 ?_
          intro v33 h
          refine ru_getR h dX7_statement_207 lk_X7_105 ?_
          intro v34 h
          refine ru_iconst dX7_statement_210 kc_i_0 <| ru_iconst dX7_statement_211 kc_i_0 <| ru_sipush dX7_statement_212 kc_s_9999 <| ?_
          obtain ⟨_, hrc, h⟩ := Option.bind_eq_some_iff.mp h
          obtain ⟨q35, hq35, h⟩ := Option.bind_eq_some_iff.mp h
          refine ru_callV (tm_X7_puts hl0 (by omega) hq35) dX7_statement_215 rfl pm_X7_91 mf_X7_puts (ab_rcv_of hrc rfl) rfl rfl (Nat.le_of_ble_eq_true rfl) ?_
          refine ru_if_eq (tgt := 239) dX7_statement_218 (by decide) (fun hc => ?_) (fun hc => ?_)
          · rw [if_pos hc] at h
            exact ru_pick [] rfl (tbb_X7_statement_239 hl0 hd    _ _ h)
          · rw [if_neg hc] at h
            refine ru_aload_n (i := 0) dX7_statement_221 rfl rfl <| ru_aload_n (i := 0) dX7_statement_222 rfl rfl <| ?_
            refine ru_getR h dX7_statement_223 lk_X7_25 ?_
            intro v36 h
            refine ru_getR h dX7_statement_226 lk_X7_105 ?_
            intro v37 h
            obtain ⟨_, hrc, h⟩ := Option.bind_eq_some_iff.mp h
            obtain ⟨q38, hq38, h⟩ := Option.bind_eq_some_iff.mp h
            refine ru_callV (tm_X7_keeps hl0 (by omega) hq38) dX7_statement_229 rfl pm_X7_95 mf_X7_keeps (ab_rcv_of hrc rfl) rfl rfl (Nat.le_of_ble_eq_true rfl) ?_
            refine ru_if_eq (tgt := 239) dX7_statement_232 (by decide) (fun hc => ?_) (fun hc => ?_)
            · rw [if_pos hc] at h
              exact ru_pick [] rfl (tbb_X7_statement_239 hl0 hd    _ _ h)
            · rw [if_neg hc] at h
              refine ru_iconst dX7_statement_235 kc_i_1 <| ru_goto (tgt := 240) dX7_statement_236 (by decide) <| ?_
              exact ru_pick [] rfl (tbb_X7_statement_240 hl0 hd   _ _ _ h)
    · rw [if_neg hc] at h
      refine ru_aload_n (i := 0) dX7_statement_89 rfl rfl <| ru_aload_n (i := 0) dX7_statement_90 rfl rfl <| ?_
      refine ru_getR h dX7_statement_91 lk_X7_25 ?_
      intro v39 h
      refine ru_getR h dX7_statement_94 lk_X7_100 ?_
      intro v40 h
      obtain ⟨_, hrc, h⟩ := Option.bind_eq_some_iff.mp h
      obtain ⟨q41, hq41, h⟩ := Option.bind_eq_some_iff.mp h
      refine ru_callV (tm_X7_opens hl0 (by omega) hq41) dX7_statement_97 rfl pm_X7_87 mf_X7_opens (ab_rcv_of hrc rfl) rfl rfl (Nat.le_of_ble_eq_true rfl) ?_
      refine ru_if_eq (tgt := 177) dX7_statement_100 (by decide) (fun hc => ?_) (fun hc => ?_)
      · rw [if_pos hc] at h
        exact ru_pick [] rfl (tbb_X7_statement_177 hl0 hd    _ _ h)
      · rw [if_neg hc] at h
        refine ru_aload_n (i := 0) dX7_statement_103 rfl rfl <| ru_aload_n (i := 0) dX7_statement_104 rfl rfl <| ?_
        refine ru_getR h dX7_statement_105 lk_X7_25 ?_
        intro v42 h
        refine ru_getR h dX7_statement_108 lk_X7_100 ?_
        intro v43 h
        refine ru_iconst dX7_statement_111 kc_i_0 <| ru_iconst dX7_statement_112 kc_i_1 <| ru_bipush dX7_statement_113 kc_b_64 <| ?_
        obtain ⟨_, hrc, h⟩ := Option.bind_eq_some_iff.mp h
        obtain ⟨q44, hq44, h⟩ := Option.bind_eq_some_iff.mp h
        refine ru_callV (tm_X7_puts hl0 (by omega) hq44) dX7_statement_115 rfl pm_X7_91 mf_X7_puts (ab_rcv_of hrc rfl) rfl rfl (Nat.le_of_ble_eq_true rfl) ?_
        refine ru_if_eq (tgt := 177) dX7_statement_118 (by decide) (fun hc => ?_) (fun hc => ?_)
        · rw [if_pos hc] at h
          exact ru_pick [] rfl (tbb_X7_statement_177 hl0 hd    _ _ h)
        · rw [if_neg hc] at h
          refine ru_aload_n (i := 0) dX7_statement_121 rfl rfl <| ru_aload_n (i := 0) dX7_statement_122 rfl rfl <| ?_
          refine ru_getR h dX7_statement_123 lk_X7_25 ?_
          intro v45 h
          refine ru_getR h dX7_statement_126 lk_X7_100 ?_
          intro v46 h
          refine ru_iconst dX7_statement_129 kc_i_1 <| ru_iconst dX7_statement_130 kc_i_1 <| ru_sipush dX7_statement_131 kc_s_256 <| ?_
          obtain ⟨_, hrc, h⟩ := Option.bind_eq_some_iff.mp h
          obtain ⟨q47, hq47, h⟩ := Option.bind_eq_some_iff.mp h
          refine ru_callV (tm_X7_puts hl0 (by omega) hq47) dX7_statement_134 rfl pm_X7_91 mf_X7_puts (ab_rcv_of hrc rfl) rfl rfl (Nat.le_of_ble_eq_true rfl) ?_
          refine ru_if_eq (tgt := 177) dX7_statement_137 (by decide) (fun hc => ?_) (fun hc => ?_)
          · rw [if_pos hc] at h
            exact ru_pick [] rfl (tbb_X7_statement_177 hl0 hd    _ _ h)
          · rw [if_neg hc] at h
            refine ru_aload_n (i := 0) dX7_statement_140 rfl rfl <| ru_aload_n (i := 0) dX7_statement_141 rfl rfl <| ?_
            refine ru_getR h dX7_statement_142 lk_X7_25 ?_
            intro v48 h
            refine ru_getR h dX7_statement_145 lk_X7_100 ?_
            intro v49 h
            refine ru_iconst dX7_statement_148 kc_i_2 <| ru_iconst dX7_statement_149 kc_i_1 <| ru_sipush dX7_statement_150 kc_s_9999 <| ?_
            obtain ⟨_, hrc, h⟩ := Option.bind_eq_some_iff.mp h
            obtain ⟨q50, hq50, h⟩ := Option.bind_eq_some_iff.mp h
            refine ru_callV (tm_X7_puts hl0 (by omega) hq50) dX7_statement_153 rfl pm_X7_91 mf_X7_puts (ab_rcv_of hrc rfl) rfl rfl (Nat.le_of_ble_eq_true rfl) ?_
            refine ru_if_eq (tgt := 177) dX7_statement_156 (by decide) (fun hc => ?_) (fun hc => ?_)
            · rw [if_pos hc] at h
              exact ru_pick [] rfl (tbb_X7_statement_177 hl0 hd    _ _ h)
            · rw [if_neg hc] at h
              refine ru_aload_n (i := 0) dX7_statement_159 rfl rfl <| ru_aload_n (i := 0) dX7_statement_160 rfl rfl <| ?_
              refine ru_getR h dX7_statement_161 lk_X7_25 ?_
              intro v51 h
              refine ru_getR h dX7_statement_164 lk_X7_100 ?_
              intro v52 h
              obtain ⟨_, hrc, h⟩ := Option.bind_eq_some_iff.mp h
              obtain ⟨q53, hq53, h⟩ := Option.bind_eq_some_iff.mp h
              refine ru_callV (tm_X7_keeps hl0 (by omega) hq53) dX7_statement_167 rfl pm_X7_95 mf_X7_keeps (ab_rcv_of hrc rfl) rfl rfl (Nat.le_of_ble_eq_true rfl) ?_
              refine ru_if_eq (tgt := 177) dX7_statement_170 (by decide) (fun hc => ?_) (fun hc => ?_)
              · rw [if_pos hc] at h
                exact ru_pick [] rfl (tbb_X7_statement_177 hl0 hd    _ _ h)
              · rw [if_neg hc] at h
                refine ru_iconst dX7_statement_173 kc_i_1 <| ru_goto (tgt := 178) dX7_statement_174 (by decide) <| ?_
                exact ru_pick [] rfl (tbb_X7_statement_178 hl0 hd   _ _ _ h)
  · rw [if_neg hc] at h
    refine ru_aload_n (i := 0) dX7_statement_9 rfl rfl <| ru_aload_n (i := 0) dX7_statement_10 rfl rfl <| ?_
    refine ru_getR h dX7_statement_11 lk_X7_25 ?_
    intro v54 h
    refine ru_getR h dX7_statement_14 lk_X7_83 ?_
    intro v55 h
    obtain ⟨_, hrc, h⟩ := Option.bind_eq_some_iff.mp h
    obtain ⟨q56, hq56, h⟩ := Option.bind_eq_some_iff.mp h
    refine ru_callV (tm_X7_opens hl0 (by omega) hq56) dX7_statement_17 rfl pm_X7_87 mf_X7_opens (ab_rcv_of hrc rfl) rfl rfl (Nat.le_of_ble_eq_true rfl) ?_
    refine ru_if_eq (tgt := 78) dX7_statement_20 (by decide) (fun hc => ?_) (fun hc => ?_)
    · rw [if_pos hc] at h
      exact ru_pick [] rfl (tbb_X7_statement_78 hl0 hd    _ _ h)
    · rw [if_neg hc] at h
      refine ru_aload_n (i := 0) dX7_statement_23 rfl rfl <| ru_aload_n (i := 0) dX7_statement_24 rfl rfl <| ?_
      refine ru_getR h dX7_statement_25 lk_X7_25 ?_
      intro v57 h
      refine ru_getR h dX7_statement_28 lk_X7_83 ?_
      intro v58 h
      refine ru_iconst dX7_statement_31 kc_i_0 <| ru_iconst dX7_statement_32 kc_i_1 <| ru_bipush dX7_statement_33 kc_b_64 <| ?_
      obtain ⟨_, hrc, h⟩ := Option.bind_eq_some_iff.mp h
      obtain ⟨q59, hq59, h⟩ := Option.bind_eq_some_iff.mp h
      refine ru_callV (tm_X7_puts hl0 (by omega) hq59) dX7_statement_35 rfl pm_X7_91 mf_X7_puts (ab_rcv_of hrc rfl) rfl rfl (Nat.le_of_ble_eq_true rfl) ?_
      refine ru_if_eq (tgt := 78) dX7_statement_38 (by decide) (fun hc => ?_) (fun hc => ?_)
      · rw [if_pos hc] at h
        exact ru_pick [] rfl (tbb_X7_statement_78 hl0 hd    _ _ h)
      · rw [if_neg hc] at h
        refine ru_aload_n (i := 0) dX7_statement_41 rfl rfl <| ru_aload_n (i := 0) dX7_statement_42 rfl rfl <| ?_
        refine ru_getR h dX7_statement_43 lk_X7_25 ?_
        intro v60 h
        refine ru_getR h dX7_statement_46 lk_X7_83 ?_
        intro v61 h
        refine ru_iconst dX7_statement_49 kc_i_1 <| ru_iconst dX7_statement_50 kc_i_1 <| ru_sipush dX7_statement_51 kc_s_256 <| ?_
        obtain ⟨_, hrc, h⟩ := Option.bind_eq_some_iff.mp h
        obtain ⟨q62, hq62, h⟩ := Option.bind_eq_some_iff.mp h
        refine ru_callV (tm_X7_puts hl0 (by omega) hq62) dX7_statement_54 rfl pm_X7_91 mf_X7_puts (ab_rcv_of hrc rfl) rfl rfl (Nat.le_of_ble_eq_true rfl) ?_
        refine ru_if_eq (tgt := 78) dX7_statement_57 (by decide) (fun hc => ?_) (fun hc => ?_)
        · rw [if_pos hc] at h
          exact ru_pick [] rfl (tbb_X7_statement_78 hl0 hd    _ _ h)
        · rw [if_neg hc] at h
          refine ru_aload_n (i := 0) dX7_statement_60 rfl rfl <| ru_aload_n (i := 0) dX7_statement_61 rfl rfl <| ?_
          refine ru_getR h dX7_statement_62 lk_X7_25 ?_
          intro v63 h
          refine ru_getR h dX7_statement_65 lk_X7_83 ?_
          intro v64 h
          obtain ⟨_, hrc, h⟩ := Option.bind_eq_some_iff.mp h
          obtain ⟨q65, hq65, h⟩ := Option.bind_eq_some_iff.mp h
          refine ru_callV (tm_X7_keeps hl0 (by omega) hq65) dX7_statement_68 rfl pm_X7_95 mf_X7_keeps (ab_rcv_of hrc rfl) rfl rfl (Nat.le_of_ble_eq_true rfl) ?_
          refine ru_if_eq (tgt := 78) dX7_statement_71 (by decide) (fun hc => ?_) (fun hc => ?_)
          · rw [if_pos hc] at h
            exact ru_pick [] rfl (tbb_X7_statement_78 hl0 hd    _ _ h)
          · rw [if_neg hc] at h
            refine ru_iconst dX7_statement_74 kc_i_1 <| ru_goto (tgt := 79) dX7_statement_75 (by decide) <| ?_
            exact ru_pick [] rfl (tbb_X7_statement_79 hl0 hd   _ _ _ h)
