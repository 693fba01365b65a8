/-! ===== the methods keep to these functions (by program) ===== -/
theorem tm_X12_statement {l : Launch} {g : ab_G} (hl0 : l.stackTraces = false) {d : Nat} (hd : 38 ≤ d) {l0 : Nat} {m : ab_Mm} {z : (Int32 × ab_Mm)} (h : dd_X12_statement l0 m = some z) : ab_Met l g yX12_statement cX12_statement 2 (some .boolean) [] d [.ref l0] m (.inl (some (.int z.1))) z.2 := by
  obtain ⟨d2, rfl⟩ : ∃ d2, d = d2 + 1 := ⟨d - 1, by omega⟩
  exact ab_of hl0 (by decide +kernel) (Nat.le_of_ble_eq_true rfl) (fun q => by cases q) rfl (te_X12_statement hl0 hd _ _ _ h)
theorem tbb_X12_joined_51 {l : Launch} {g : ab_G} (hl0 : l.stackTraces = false) {d2 : Nat} (hd : 1 ≤ d2 + 1)   (s0 : Int32) (m0 : ab_Mm) (z : (Int32 × ab_Mm)) (h : bb_X12_joined_51  s0 m0 = some z) : ab_W l g cX12_joined RX12 3 (some .int) [] false (d2 + 1) (.inl (some (.int z.1))) z.2 51 [] [.int s0] m0 := by
  unfold bb_X12_joined_51 at h
  cases h
  exact ru_ret (v := some (.int _)) ⟨_, rfl, rfl, dX12_joined_51⟩
theorem te_X12_joined {l : Launch} {g : ab_G} (hl0 : l.stackTraces = false) {d2 : Nat} (hd : 1 ≤ d2 + 1)   (l0 : Int32) (l1 : Int32) (l2 : Int32) (m0 : ab_Mm) (z : (Int32 × ab_Mm)) (h : dd_X12_joined  l0 l1 l2 m0 = some z) : ab_W l g cX12_joined RX12 3 (some .int) [] false (d2 + 1) (.inl (some (.int z.1))) z.2 0 [(0, .int l0), (1, .int l1), (2, .int l2)] [] m0 := by
  unfold dd_X12_joined at h
  refine ru_iload_n (i := 0) dX12_joined_0 rfl rfl <| ?_
  rcases ab_iff h with ⟨hc, h⟩ | ⟨hcm3, h⟩
  · rw [hc]
    refine ru_tableIn (off := 35) (tgt := 36) dX12_joined_1 (by decide) (by decide) (by decide) (by decide) ?_
    refine ru_iload_n (i := 1) dX12_joined_36 rfl rfl <| ru_iload_n (i := 2) dX12_joined_37 rfl rfl <| ru_imul dX12_joined_38 <| ?_
    cases h
    exact ru_ret (v := some (.int _)) ⟨_, rfl, rfl, dX12_joined_39⟩
  rcases ab_iff h with ⟨hc, h⟩ | ⟨hcm2, h⟩
  · rw [hc]
    refine ru_tableIn (off := 31) (tgt := 32) dX12_joined_1 (by decide) (by decide) (by decide) (by decide) ?_
    refine ru_iload_n (i := 1) dX12_joined_32 rfl rfl <| ru_iload_n (i := 2) dX12_joined_33 rfl rfl <| ru_isub dX12_joined_34 <| ?_
    cases h
    exact ru_ret (v := some (.int _)) ⟨_, rfl, rfl, dX12_joined_35⟩
  rcases ab_iff h with ⟨hc, h⟩ | ⟨hcm1, h⟩
  · rw [hc]
    refine ru_tableIn (off := 27) (tgt := 28) dX12_joined_1 (by decide) (by decide) (by decide) (by decide) ?_
    refine ru_iload_n (i := 1) dX12_joined_28 rfl rfl <| ru_iload_n (i := 2) dX12_joined_29 rfl rfl <| ru_iadd dX12_joined_30 <| ?_
    cases h
    exact ru_ret (v := some (.int _)) ⟨_, rfl, rfl, dX12_joined_31⟩
  have em3 := ab_ne_int hcm3 (by decide : (-3 : Int32).toInt = -3)
  have em2 := ab_ne_int hcm2 (by decide : (-2 : Int32).toInt = -2)
  have em1 := ab_ne_int hcm1 (by decide : (-1 : Int32).toInt = -1)
  refine ru_tableOut (tgt := 40) dX12_joined_1 (by omega) (by decide) ?_
  refine ru_iload_n (i := 2) dX12_joined_40 rfl rfl <| ?_
  refine ru_if_ne (tgt := 48) dX12_joined_41 (by decide) (fun hc => ?_) (fun hc => ?_)
  · rw [if_neg hc] at h
    refine ru_iload_n (i := 1) dX12_joined_48 rfl rfl <| ru_iload_n (i := 2) dX12_joined_49 rfl rfl <| ?_
    rcases ab_iff h with ⟨hc, h⟩ | ⟨hc, h⟩
    · cases h
    refine ru_idiv dX12_joined_50 hc ?_
    exact ru_pick [] rfl (tbb_X12_joined_51 hl0 hd   _ _ _ h)
  · rw [if_pos hc] at h
    refine ru_iconst dX12_joined_44 kc_i_0 <| ru_goto (tgt := 51) dX12_joined_45 (by decide) <| ?_
    exact ru_pick [] rfl (tbb_X12_joined_51 hl0 hd   _ _ _ h)
theorem tm_X12_joined {l : Launch} {g : ab_G} (hl0 : l.stackTraces = false) {d : Nat} (hd : 1 ≤ d) {l0 : Int32} {l1 : Int32} {l2 : Int32} {m : ab_Mm} {z : (Int32 × ab_Mm)} (h : dd_X12_joined l0 l1 l2 m = some z) : ab_Met l g yX12_joined cX12_joined 3 (some .int) [] d [.int l0, .int l1, .int l2] m (.inl (some (.int z.1))) z.2 := by
  obtain ⟨d2, rfl⟩ : ∃ d2, d = d2 + 1 := ⟨d - 1, by omega⟩
  exact ab_of hl0 (by decide +kernel) (Nat.le_of_ble_eq_true rfl) (fun q => by cases q) rfl (te_X12_joined hl0 hd _ _ _ _ _ h)
theorem tbb_X12_costOf_154 {l : Launch} {g : ab_G} (hl0 : l.stackTraces = false) {d2 : Nat} (hd : 3 ≤ d2 + 1)   (s0 : Int32) (m0 : ab_Mm) (z : (Int32 × ab_Mm)) (h : bb_X12_costOf_154  s0 m0 = some z) : ab_W l g cX12_costOf RX12 5 (some .int) [] false (d2 + 1) (.inl (some (.int z.1))) z.2 154 [] [.int s0] m0 := by
  unfold bb_X12_costOf_154 at h
  cases h
  exact ru_ret (v := some (.int _)) ⟨_, rfl, rfl, dX12_costOf_154⟩
theorem tbb_X12_costOf_129 {l : Launch} {g : ab_G} (hl0 : l.stackTraces = false) {d2 : Nat} (hd : 3 ≤ d2 + 1) (r4 : Nat → Int32 → Int32 → Int32 → ab_Mm → Option (Int32 × ab_Mm)) (hr4 : ∀ (l0 : Nat) (l1 : Int32) (l2 : Int32) (l3 : Int32) (m : ab_Mm) (z : (Int32 × ab_Mm)), r4 l0 l1 l2 l3 m = some z → ab_W l g cX12_costOf RX12 5 (some .int) [] false (d2 + 1) (.inl (some (.int z.1))) z.2 4 [(0, .ref l0), (1, .int l1), (2, .int l2), (3, .int l3)] [] m) (l0 : Nat) (l1 : Int32) (l2 : Int32) (l3 : Int32) (m0 : ab_Mm) (z : (Int32 × ab_Mm)) (h : bb_X12_costOf_129 r4 l0 l1 l2 l3 m0 = some z) : ab_W l g cX12_costOf RX12 5 (some .int) [] false (d2 + 1) (.inl (some (.int z.1))) z.2 129 [(0, .ref l0), (1, .int l1), (2, .int l2), (3, .int l3)] [] m0 := by
  unfold bb_X12_costOf_129 at h
  refine ru_iinc dX12_costOf_129 (by decide) rfl (ab_inc kc_i_1) <| ru_goto (tgt := 4) dX12_costOf_132 (by decide) <| ?_
  exact ru_pick [0, 1, 2, 3] rfl (hr4 _ _ _ _ _ _ h)
theorem tbb_X12_costOf_92 {l : Launch} {g : ab_G} (hl0 : l.stackTraces = false) {d2 : Nat} (hd : 3 ≤ d2 + 1) (r4 : Nat → Int32 → Int32 → Int32 → ab_Mm → Option (Int32 × ab_Mm)) (hr4 : ∀ (l0 : Nat) (l1 : Int32) (l2 : Int32) (l3 : Int32) (m : ab_Mm) (z : (Int32 × ab_Mm)), r4 l0 l1 l2 l3 m = some z → ab_W l g cX12_costOf RX12 5 (some .int) [] false (d2 + 1) (.inl (some (.int z.1))) z.2 4 [(0, .ref l0), (1, .int l1), (2, .int l2), (3, .int l3)] [] m) (l0 : Nat) (l1 : Int32) (l2 : Int32) (l3 : Int32) (s0 : Nat) (s1 : Int32) (s2 : Int32) (m0 : ab_Mm) (z : (Int32 × ab_Mm)) (h : bb_X12_costOf_92 r4 l0 l1 l2 l3 s0 s1 s2 m0 = some z) : ab_W l g cX12_costOf RX12 5 (some .int) [] false (d2 + 1) (.inl (some (.int z.1))) z.2 92 [(0, .ref l0), (1, .int l1), (2, .int l2), (3, .int l3)] [.int s2, .int s1, .ref s0] m0 := by
  unfold bb_X12_costOf_92 at h
  refine ru_iastore h dX12_costOf_92 ?_
  intro m1 h
  refine ru_iinc dX12_costOf_93 (by decide) rfl (ab_inc kc_i_1) <| ru_goto (tgt := 129) dX12_costOf_96 (by decide) <| ?_
  exact ru_pick [0, 1, 2, 3] rfl (tbb_X12_costOf_129 hl0 hd _ hr4 _ _ _ _ _ _ h)
theorem tbb_X12_costOf_4 {l : Launch} {g : ab_G} (hl0 : l.stackTraces = false) {d2 : Nat} (hd : 3 ≤ d2 + 1)   : ∀ (n : Nat) (l0 : Nat) (l1 : Int32) (l2 : Int32) (l3 : Int32) (m0 : ab_Mm) (z : (Int32 × ab_Mm)), bb_X12_costOf_4  n l0 l1 l2 l3 m0 = some z → ab_W l g cX12_costOf RX12 5 (some .int) [] false (d2 + 1) (.inl (some (.int z.1))) z.2 4 [(0, .ref l0), (1, .int l1), (2, .int l2), (3, .int l3)] [] m0 := by
  intro n
  induction n with
  | zero => intro l0 l1 l2 l3 m0 z h; cases h
  | succ n ih =>
    intro l0 l1 l2 l3 m0 z h
    rw [bb_X12_costOf_4] at h
    refine ru_iload_n (i := 3) dX12_costOf_4 rfl rfl <| ru_aload_n (i := 0) dX12_costOf_5 rfl rfl <| ?_
    refine ru_getR h dX12_costOf_6 lk_X12_29 ?_
    intro v1 h
    refine ru_iconst dX12_costOf_9 kc_i_0 <| ?_
    refine ru_iaload h dX12_costOf_10 ?_
    intro v2 h
    refine ru_icmp_ge (tgt := 135) dX12_costOf_11 (by decide) (fun hc => ?_) (fun hc => ?_)
    · rw [if_pos hc] at h
      refine ru_aload_n (i := 0) dX12_costOf_135 rfl rfl <| ?_
      refine ru_getR h dX12_costOf_136 lk_X12_43 ?_
      intro v3 h
      refine ru_iconst dX12_costOf_139 kc_i_0 <| ?_
      refine ru_iaload h dX12_costOf_140 ?_
      intro v4 h
      refine ru_if_ge (tgt := 148) dX12_costOf_141 (by decide) (fun hc => ?_) (fun hc => ?_)
      · rw [if_pos hc] at h
        refine ru_aload_n (i := 0) dX12_costOf_148 rfl rfl <| ?_
        refine ru_getR h dX12_costOf_149 lk_X12_43 ?_
        intro v5 h
        refine ru_iconst dX12_costOf_152 kc_i_0 <| ?_
        refine ru_iaload h dX12_costOf_153 ?_
        intro v6 h
        exact ru_pick [] rfl (tbb_X12_costOf_154 hl0 hd   _ _ _ h)
      · rw [if_neg hc] at h
        refine ru_iconst dX12_costOf_144 kc_i_0 <| ru_goto (tgt := 154) dX12_costOf_145 (by decide) <| ?_
        exact ru_pick [] rfl (tbb_X12_costOf_154 hl0 hd   _ _ _ h)
    · rw [if_neg hc] at h
      refine ru_aload_n (i := 0) dX12_costOf_14 rfl rfl <| ?_
      refine ru_getR h dX12_costOf_15 lk_X12_32 ?_
      intro v7 h
      refine ru_iload_n (i := 3) dX12_costOf_18 rfl rfl <| ?_
      refine ru_iaload h dX12_costOf_19 ?_
      intro v8 h
      refine ru_istore dX12_costOf_20 (by decide) <| ru_iload dX12_costOf_22 rfl <| ?_
      refine ru_if_le (tgt := 99) dX12_costOf_24 (by decide) (fun hc => ?_) (fun hc => ?_)
      · rw [if_pos hc] at h
        refine ru_iinc dX12_costOf_99 (by decide) rfl (ab_inc kc_i_m1) <| ru_aload_n (i := 0) dX12_costOf_102 rfl rfl <| ?_
        refine ru_getR h dX12_costOf_103 lk_X12_43 ?_
        intro v9 h
        refine ru_iload_n (i := 2) dX12_costOf_106 rfl rfl <| ru_iconst dX12_costOf_107 kc_i_1 <| ru_isub dX12_costOf_108 <| ru_iload dX12_costOf_109 rfl <| ru_aload_n (i := 0) dX12_costOf_111 rfl rfl <| ?_
        refine ru_getR h dX12_costOf_112 lk_X12_43 ?_
        intro v10 h
        refine ru_iload_n (i := 2) dX12_costOf_115 rfl rfl <| ru_iconst dX12_costOf_116 kc_i_1 <| ru_isub dX12_costOf_117 <| ?_
        refine ru_iaload h dX12_costOf_118 ?_
        intro v11 h
        refine ru_aload_n (i := 0) dX12_costOf_119 rfl rfl <| ?_
        refine ru_getR h dX12_costOf_120 lk_X12_43 ?_
        intro v12 h
        refine ru_iload_n (i := 2) dX12_costOf_123 rfl rfl <| ?_
        refine ru_iaload h dX12_costOf_124 ?_
        intro v13 h
        obtain ⟨q14, hq14, h⟩ := Option.bind_eq_some_iff.mp h
        refine ru_callS (tm_X12_joined hl0 (by omega) hq14) dX12_costOf_125 rfl pm_X12_245 mf_X12_joined rfl rfl (Nat.le_of_ble_eq_true rfl) ?_
        refine ru_iastore h dX12_costOf_128 ?_
        intro m15 h
        exact ru_pick [0, 1, 2, 3] rfl (tbb_X12_costOf_129 hl0 hd _ ih _ _ _ _ _ _ h)
      · rw [if_neg hc] at h
        refine ru_aload_n (i := 0) dX12_costOf_27 rfl rfl <| ?_
        refine ru_getR h dX12_costOf_28 lk_X12_43 ?_
        intro v16 h
        refine ru_iload_n (i := 2) dX12_costOf_31 rfl rfl <| ru_iload dX12_costOf_32 rfl <| ru_bipush dX12_costOf_34 kc_b_100 <| ?_
        refine ru_icmp_lt (tgt := 47) dX12_costOf_36 (by decide) (fun hc => ?_) (fun hc => ?_)
        · rw [if_pos hc] at h
          refine ru_iload dX12_costOf_47 rfl <| ru_iconst dX12_costOf_49 kc_i_4 <| ?_
          refine ru_icmp_ne (tgt := 74) dX12_costOf_50 (by decide) (fun hc => ?_) (fun hc => ?_)
          · rw [if_neg hc] at h
            refine ru_aload_n (i := 0) dX12_costOf_74 rfl rfl <| ?_
            refine ru_getR h dX12_costOf_75 lk_X12_20 ?_
            intro v17 h
            refine ru_iconst dX12_costOf_78 kc_i_3 <| ru_aload_n (i := 0) dX12_costOf_79 rfl rfl <| ru_iload_n (i := 1) dX12_costOf_80 rfl rfl <| ru_iconst dX12_costOf_81 kc_i_1 <| ?_
            obtain ⟨_, hrc, h⟩ := Option.bind_eq_some_iff.mp h
            obtain ⟨q18, hq18, h⟩ := Option.bind_eq_some_iff.mp h
            refine ru_callV (tm_X12_its hl0 (by omega) hq18) dX12_costOf_82 rfl pm_X12_242 mf_X12_its (ab_rcv_of hrc rfl) rfl rfl (Nat.le_of_ble_eq_true rfl) ?_
            refine ru_imul dX12_costOf_85 <| ru_iload dX12_costOf_86 rfl <| ru_iadd dX12_costOf_88 <| ru_iconst dX12_costOf_89 kc_i_1 <| ru_isub dX12_costOf_90 <| ?_
            refine ru_iaload h dX12_costOf_91 ?_
            intro v19 h
            exact ru_pick [0, 1, 2, 3] rfl (tbb_X12_costOf_92 hl0 hd _ ih _ _ _ _ _ _ _ _ _ h)
          · rw [if_pos hc] at h
            refine ru_aload_n (i := 0) dX12_costOf_53 rfl rfl <| ?_
            refine ru_getR h dX12_costOf_54 lk_X12_7 ?_
            intro v20 h
            refine ru_iconst dX12_costOf_57 kc_i_0 <| ?_
            refine ru_laload h dX12_costOf_58 ?_
            intro v21 h
            refine ru_aload_n (i := 0) dX12_costOf_59 rfl rfl <| ?_
            refine ru_getR h dX12_costOf_60 lk_X12_7 ?_
            intro v22 h
            refine ru_iload_n (i := 1) dX12_costOf_63 rfl rfl <| ru_iconst dX12_costOf_64 kc_i_5 <| ?_
            obtain ⟨q23, hq23, h⟩ := Option.bind_eq_some_iff.mp h
            refine ru_callS (tm_X12_of hl0 (by omega) hq23) dX12_costOf_65 rfl pm_X12_238 mf_X12_of rfl rfl (Nat.le_of_ble_eq_true rfl) ?_
            refine ru_laload h dX12_costOf_68 ?_
            intro v24 h
            refine ru_lsub dX12_costOf_69 <| ru_l2i dX12_costOf_70 <| ru_goto (tgt := 92) dX12_costOf_71 (by decide) <| ?_
            exact ru_pick [0, 1, 2, 3] rfl (tbb_X12_costOf_92 hl0 hd _ ih _ _ _ _ _ _ _ _ _ h)
        · rw [if_neg hc] at h
          refine ru_iload dX12_costOf_39 rfl <| ru_bipush dX12_costOf_41 kc_b_100 <| ru_isub dX12_costOf_43 <| ru_goto (tgt := 92) dX12_costOf_44 (by decide) <| ?_
          exact ru_pick [0, 1, 2, 3] rfl (tbb_X12_costOf_92 hl0 hd _ ih _ _ _ _ _ _ _ _ _ h)
theorem te_X12_costOf {l : Launch} {g : ab_G} (hl0 : l.stackTraces = false) {d2 : Nat} (hd : 3 ≤ d2 + 1)   (l0 : Nat) (l1 : Int32) (m0 : ab_Mm) (z : (Int32 × ab_Mm)) (h : dd_X12_costOf  l0 l1 m0 = some z) : ab_W l g cX12_costOf RX12 5 (some .int) [] false (d2 + 1) (.inl (some (.int z.1))) z.2 0 [(0, .ref l0), (1, .int l1)] [] m0 := by
  unfold dd_X12_costOf at h
  refine ru_iconst dX12_costOf_0 kc_i_0 <| ru_istore_n (i := 2) dX12_costOf_1 rfl (by decide) <| ru_iconst dX12_costOf_2 kc_i_0 <| ru_istore_n (i := 3) dX12_costOf_3 rfl (by decide) <| ?_
  exact ru_pick [0, 1, 2, 3] rfl (tbb_X12_costOf_4 hl0 hd   _ _ _ _ _ _ _ h)
theorem tm_X12_costOf {l : Launch} {g : ab_G} (hl0 : l.stackTraces = false) {d : Nat} (hd : 3 ≤ d) {l0 : Nat} {l1 : Int32} {m : ab_Mm} {z : (Int32 × ab_Mm)} (h : dd_X12_costOf l0 l1 m = some z) : ab_Met l g yX12_costOf cX12_costOf 5 (some .int) [] d [.ref l0, .int l1] m (.inl (some (.int z.1))) z.2 := by
  obtain ⟨d2, rfl⟩ : ∃ d2, d = d2 + 1 := ⟨d - 1, by omega⟩
  exact ab_of hl0 (by decide +kernel) (Nat.le_of_ble_eq_true rfl) (fun q => by cases q) rfl (te_X12_costOf hl0 hd _ _ _ _ h)
theorem tbb_X12_parse_110 {l : Launch} {g : ab_G} (hl0 : l.stackTraces = false) {d2 : Nat} (hd : 39 ≤ d2 + 1)   (l0 : Nat) (l2 : Int32) (m0 : ab_Mm) (z : (Int32 × ab_Mm)) (h : bb_X12_parse_110  l0 l2 m0 = some z) : ab_W l g cX12_parse RX12 3 (some .int) [] false (d2 + 1) (.inl (some (.int z.1))) z.2 110 [(0, .ref l0), (2, .int l2)] [] m0 := by
  unfold bb_X12_parse_110 at h
  refine ru_iload_n (i := 2) dX12_parse_110 rfl rfl <| ?_
  refine ru_if_ne (tgt := 119) dX12_parse_111 (by decide) (fun hc => ?_) (fun hc => ?_)
  · rw [if_neg hc] at h
    refine ru_aload_n (i := 0) dX12_parse_119 rfl rfl <| ?_
    obtain ⟨_, hrc, h⟩ := Option.bind_eq_some_iff.mp h
    obtain ⟨q1, hq1, h⟩ := Option.bind_eq_some_iff.mp h
    refine ru_callV (tm_X12_liftsAll hl0 (by omega) hq1) dX12_parse_120 rfl pm_X12_77 mf_X12_liftsAll (ab_rcv_of hrc rfl) rfl rfl (Nat.le_of_ble_eq_true rfl) ?_
    refine ru_aload_n (i := 0) dX12_parse_123 rfl rfl <| ?_
    obtain ⟨_, hrc, h⟩ := Option.bind_eq_some_iff.mp h
    obtain ⟨q2, hq2, h⟩ := Option.bind_eq_some_iff.mp h
    refine ru_callV (tm_X12_begins hl0 (by omega) hq2) dX12_parse_124 rfl pm_X12_80 mf_X12_begins (ab_rcv_of hrc rfl) rfl rfl (Nat.le_of_ble_eq_true rfl) ?_
    refine ru_iconst dX12_parse_127 kc_i_0 <| ?_
    cases h
    exact ru_ret (v := some (.int _)) ⟨_, rfl, rfl, dX12_parse_128⟩
  · rw [if_pos hc] at h
    refine ru_aload_n (i := 0) dX12_parse_114 rfl rfl <| ?_
    refine ru_getI h dX12_parse_115 lk_X12_144 ?_
    intro v3 h
    cases h
    exact ru_ret (v := some (.int _)) ⟨_, rfl, rfl, dX12_parse_118⟩
theorem tbb_X12_parse_106 {l : Launch} {g : ab_G} (hl0 : l.stackTraces = false) {d2 : Nat} (hd : 39 ≤ d2 + 1) (r74 : Nat → Int32 → ab_Mm → Option (Int32 × ab_Mm)) (hr74 : ∀ (l0 : Nat) (l2 : Int32) (m : ab_Mm) (z : (Int32 × ab_Mm)), r74 l0 l2 m = some z → ab_W l g cX12_parse RX12 3 (some .int) [] false (d2 + 1) (.inl (some (.int z.1))) z.2 74 [(0, .ref l0), (2, .int l2)] [] m) (l0 : Nat) (s0 : Int32) (m0 : ab_Mm) (z : (Int32 × ab_Mm)) (h : bb_X12_parse_106 r74 l0 s0 m0 = some z) : ab_W l g cX12_parse RX12 3 (some .int) [] false (d2 + 1) (.inl (some (.int z.1))) z.2 106 [(0, .ref l0)] [.int s0] m0 := by
  unfold bb_X12_parse_106 at h
  refine ru_istore_n (i := 2) dX12_parse_106 rfl (by decide) <| ru_goto (tgt := 74) dX12_parse_107 (by decide) <| ?_
  exact ru_pick [0, 2] rfl (hr74 _ _ _ _ h)
theorem tbb_X12_parse_105 {l : Launch} {g : ab_G} (hl0 : l.stackTraces = false) {d2 : Nat} (hd : 39 ≤ d2 + 1) (r74 : Nat → Int32 → ab_Mm → Option (Int32 × ab_Mm)) (hr74 : ∀ (l0 : Nat) (l2 : Int32) (m : ab_Mm) (z : (Int32 × ab_Mm)), r74 l0 l2 m = some z → ab_W l g cX12_parse RX12 3 (some .int) [] false (d2 + 1) (.inl (some (.int z.1))) z.2 74 [(0, .ref l0), (2, .int l2)] [] m) (l0 : Nat) (m0 : ab_Mm) (z : (Int32 × ab_Mm)) (h : bb_X12_parse_105 r74 l0 m0 = some z) : ab_W l g cX12_parse RX12 3 (some .int) [] false (d2 + 1) (.inl (some (.int z.1))) z.2 105 [(0, .ref l0)] [] m0 := by
  unfold bb_X12_parse_105 at h
  refine ru_iconst dX12_parse_105 kc_i_0 <| ?_
  exact ru_pick [0] rfl (tbb_X12_parse_106 hl0 hd _ hr74 _ _ _ _ h)
theorem tbb_X12_parse_74 {l : Launch} {g : ab_G} (hl0 : l.stackTraces = false) {d2 : Nat} (hd : 39 ≤ d2 + 1)   : ∀ (n : Nat) (l0 : Nat) (l2 : Int32) (m0 : ab_Mm) (z : (Int32 × ab_Mm)), bb_X12_parse_74  n l0 l2 m0 = some z → ab_W l g cX12_parse RX12 3 (some .int) [] false (d2 + 1) (.inl (some (.int z.1))) z.2 74 [(0, .ref l0), (2, .int l2)] [] m0 := by
  intro n
  induction n with
  | zero => intro l0 l2 m0 z h; cases h
  | succ n ih =>
    intro l0 l2 m0 z h
    rw [bb_X12_parse_74] at h
    refine ru_iload_n (i := 2) dX12_parse_74 rfl rfl <| ?_
    refine ru_if_eq (tgt := 110) dX12_parse_75 (by decide) (fun hc => ?_) (fun hc => ?_)
    · rw [if_pos hc] at h
      exact ru_pick [0, 2] rfl (tbb_X12_parse_110 hl0 hd   _ _ _ _ h)
    · rw [if_neg hc] at h
      refine ru_aload_n (i := 0) dX12_parse_78 rfl rfl <| ?_
      refine ru_getI h dX12_parse_79 lk_X12_117 ?_
      intro v1 h
      refine ru_if_eq (tgt := 110) dX12_parse_82 (by decide) (fun hc => ?_) (fun hc => ?_)
      · rw [if_pos hc] at h
        exact ru_pick [0, 2] rfl (tbb_X12_parse_110 hl0 hd   _ _ _ _ h)
      · rw [if_neg hc] at h
        refine ru_aload_n (i := 0) dX12_parse_85 rfl rfl <| ?_
        obtain ⟨_, hrc, h⟩ := Option.bind_eq_some_iff.mp h
        obtain ⟨q2, hq2, h⟩ := Option.bind_eq_some_iff.mp h
        refine ru_callV (tm_X12_statement hl0 (by omega) hq2) dX12_parse_86 rfl pm_X12_253 mf_X12_statement (ab_rcv_of hrc rfl) rfl rfl (Nat.le_of_ble_eq_true rfl) ?_
        refine ru_if_eq (tgt := 105) dX12_parse_89 (by decide) (fun hc => ?_) (fun hc => ?_)
        · rw [if_pos hc] at h
          exact ru_pick [0] rfl (tbb_X12_parse_105 hl0 hd _ ih _ _ _ h)
        · rw [if_neg hc] at h
          refine ru_aload_n (i := 0) dX12_parse_92 rfl rfl <| ru_bipush dX12_parse_93 kc_b_59 <| ?_
          obtain ⟨_, hrc, h⟩ := Option.bind_eq_some_iff.mp h
          obtain ⟨q3, hq3, h⟩ := Option.bind_eq_some_iff.mp h
          refine ru_callV (tm_X12_closes hl0 (by omega) hq3) dX12_parse_95 rfl pm_X12_232 mf_X12_closes (ab_rcv_of hrc rfl) rfl rfl (Nat.le_of_ble_eq_true rfl) ?_
          refine ru_if_eq (tgt := 105) dX12_parse_98 (by decide) (fun hc => ?_) (fun hc => ?_)
          · rw [if_pos hc] at h
            exact ru_pick [0] rfl (tbb_X12_parse_105 hl0 hd _ ih _ _ _ h)
          · rw [if_neg hc] at h
            refine ru_iconst dX12_parse_101 kc_i_1 <| ru_goto (tgt := 106) dX12_parse_102 (by decide) <| ?_
            exact ru_pick [0] rfl (tbb_X12_parse_106 hl0 hd _ ih _ _ _ _ h)
theorem tbb_X12_parse_25 {l : Launch} {g : ab_G} (hl0 : l.stackTraces = false) {d2 : Nat} (hd : 39 ≤ d2 + 1)   (l0 : Nat) (l1 : Int32) (s0 : Nat) (s1 : Int32) (m0 : ab_Mm) (z : (Int32 × ab_Mm)) (h : bb_X12_parse_25  l0 l1 s0 s1 m0 = some z) : ab_W l g cX12_parse RX12 3 (some .int) [] false (d2 + 1) (.inl (some (.int z.1))) z.2 25 [(0, .ref l0), (1, .int l1)] [.int s1, .ref s0] m0 := by
  unfold bb_X12_parse_25 at h
  refine ru_iconst dX12_parse_25 kc_i_1 <| ?_
  obtain ⟨_, hrc, h⟩ := Option.bind_eq_some_iff.mp h
  obtain ⟨q1, hq1, h⟩ := Option.bind_eq_some_iff.mp h
  refine ru_callV (tm_X12_throwsIf hl0 (by omega) hq1) dX12_parse_26 rfl pm_X12_249 mf_X12_throwsIf (ab_rcv_of hrc rfl) rfl rfl (Nat.le_of_ble_eq_true rfl) ?_
  refine ru_if_eq (tgt := 34) dX12_parse_29 (by decide) (fun hc => ?_) (fun hc => ?_)
  · rw [if_pos hc] at h
    refine ru_aload_n (i := 0) dX12_parse_34 rfl rfl <| ru_iload_n (i := 1) dX12_parse_35 rfl rfl <| ?_
    refine ru_putI h dX12_parse_36 lk_X12_101 ?_
    intro m2 h
    refine ru_aload_n (i := 0) dX12_parse_39 rfl rfl <| ru_iconst dX12_parse_40 kc_i_0 <| ?_
    refine ru_putI h dX12_parse_41 lk_X12_94 ?_
    intro m3 h
    refine ru_aload_n (i := 0) dX12_parse_44 rfl rfl <| ru_iconst dX12_parse_45 kc_i_0 <| ?_
    refine ru_putI h dX12_parse_46 lk_X12_104 ?_
    intro m4 h
    refine ru_aload_n (i := 0) dX12_parse_49 rfl rfl <| ru_iconst dX12_parse_50 kc_i_0 <| ?_
    refine ru_putI h dX12_parse_51 lk_X12_144 ?_
    intro m5 h
    refine ru_aload_n (i := 0) dX12_parse_54 rfl rfl <| ru_iconst dX12_parse_55 kc_i_m1 <| ?_
    refine ru_putI h dX12_parse_56 lk_X12_39 ?_
    intro m6 h
    refine ru_aload_n (i := 0) dX12_parse_59 rfl rfl <| ru_iconst dX12_parse_60 kc_i_0 <| ?_
    refine ru_putI h dX12_parse_61 lk_X12_156 ?_
    intro m7 h
    refine ru_aload_n (i := 0) dX12_parse_64 rfl rfl <| ?_
    obtain ⟨_, hrc, h⟩ := Option.bind_eq_some_iff.mp h
    obtain ⟨q8, hq8, h⟩ := Option.bind_eq_some_iff.mp h
    refine ru_callV (tm_X12_clearDraft hl0 (by omega) hq8) dX12_parse_65 rfl pm_X12_74 mf_X12_clearDraft (ab_rcv_of hrc rfl) rfl rfl (Nat.le_of_ble_eq_true rfl) ?_
    refine ru_aload_n (i := 0) dX12_parse_68 rfl rfl <| ?_
    obtain ⟨_, hrc, h⟩ := Option.bind_eq_some_iff.mp h
    obtain ⟨q9, hq9, h⟩ := Option.bind_eq_some_iff.mp h
    refine ru_callV (tm_X12_advance hl0 (by omega) hq9) dX12_parse_69 rfl pm_X12_153 mf_X12_advance (ab_rcv_of hrc rfl) rfl rfl (Nat.le_of_ble_eq_true rfl) ?_
    refine ru_iconst dX12_parse_72 kc_i_1 <| ru_istore_n (i := 2) dX12_parse_73 rfl (by decide) <| ?_
    exact ru_pick [0, 2] rfl (tbb_X12_parse_74 hl0 hd   _ _ _ _ _ h)
  · rw [if_neg hc] at h
    refine ru_iconst dX12_parse_32 kc_i_0 <| ?_
    cases h
    exact ru_ret (v := some (.int _)) ⟨_, rfl, rfl, dX12_parse_33⟩
theorem te_X12_parse {l : Launch} {g : ab_G} (hl0 : l.stackTraces = false) {d2 : Nat} (hd : 39 ≤ d2 + 1)   (l0 : Nat) (l1 : Int32) (m0 : ab_Mm) (z : (Int32 × ab_Mm)) (h : dd_X12_parse  l0 l1 m0 = some z) : ab_W l g cX12_parse RX12 3 (some .int) [] false (d2 + 1) (.inl (some (.int z.1))) z.2 0 [(0, .ref l0), (1, .int l1)] [] m0 := by
  unfold dd_X12_parse at h
  refine ru_aload_n (i := 0) dX12_parse_0 rfl rfl <| ru_iconst dX12_parse_1 kc_i_0 <| ?_
  refine ru_putI h dX12_parse_2 lk_X12_83 ?_
  intro m1 h
  refine ru_aload_n (i := 0) dX12_parse_5 rfl rfl <| ru_iload_n (i := 1) dX12_parse_6 rfl rfl <| ru_i2l dX12_parse_7 <| ru_lconst dX12_parse_8 (v := 0) rfl <| ru_aload_n (i := 0) dX12_parse_9 rfl rfl <| ?_
  refine ru_getI h dX12_parse_10 lk_X12_94 ?_
  intro v2 h
  refine ru_i2l dX12_parse_13 <| ?_
  obtain ⟨q3, hq3, h⟩ := Option.bind_eq_some_iff.mp h
  refine ru_callS (tm_X12_within hl0 (by omega) hq3) dX12_parse_14 rfl pm_X12_124 mf_X12_within rfl rfl (Nat.le_of_ble_eq_true rfl) ?_
  refine ru_if_ne (tgt := 24) dX12_parse_17 (by decide) (fun hc => ?_) (fun hc => ?_)
  · rw [if_neg hc] at h
    refine ru_iconst dX12_parse_24 kc_i_0 <| ?_
    exact ru_pick [0, 1] rfl (tbb_X12_parse_25 hl0 hd   _ _ _ _ _ _ h)
  · rw [if_pos hc] at h
    refine ru_iconst dX12_parse_20 kc_i_1 <| ru_goto (tgt := 25) dX12_parse_21 (by decide) <| ?_
    exact ru_pick [0, 1] rfl (tbb_X12_parse_25 hl0 hd   _ _ _ _ _ _ h)
theorem tm_X12_parse {l : Launch} {g : ab_G} (hl0 : l.stackTraces = false) {d : Nat} (hd : 39 ≤ d) {l0 : Nat} {l1 : Int32} {m : ab_Mm} {z : (Int32 × ab_Mm)} (h : dd_X12_parse l0 l1 m = some z) : ab_Met l g yX12_parse cX12_parse 3 (some .int) [] d [.ref l0, .int l1] m (.inl (some (.int z.1))) z.2 := by
  obtain ⟨d2, rfl⟩ : ∃ d2, d = d2 + 1 := ⟨d - 1, by omega⟩
  exact ab_of hl0 (by decide +kernel) (Nat.le_of_ble_eq_true rfl) (fun q => by cases q) rfl (te_X12_parse hl0 hd _ _ _ _ h)
theorem te_X12_errorPosition {l : Launch} {g : ab_G} (hl0 : l.stackTraces = false) {d2 : Nat} (hd : 1 ≤ d2 + 1)   (l0 : Nat) (m0 : ab_Mm) (z : (Int32 × ab_Mm)) (h : dd_X12_errorPosition  l0 m0 = some z) : ab_W l g cX12_errorPosition RX12 1 (some .int) [] false (d2 + 1) (.inl (some (.int z.1))) z.2 0 [(0, .ref l0)] [] m0 := by
  unfold dd_X12_errorPosition at h
  refine ru_aload_n (i := 0) dX12_errorPosition_0 rfl rfl <| ru_iconst dX12_errorPosition_1 kc_i_0 <| ?_
  refine ru_putI h dX12_errorPosition_2 lk_X12_83 ?_
  intro m1 h
  refine ru_aload_n (i := 0) dX12_errorPosition_5 rfl rfl <| ?_
  refine ru_getI h dX12_errorPosition_6 lk_X12_39 ?_
  intro v2 h
  cases h
  exact ru_ret (v := some (.int _)) ⟨_, rfl, rfl, dX12_errorPosition_9⟩
theorem tm_X12_errorPosition {l : Launch} {g : ab_G} (hl0 : l.stackTraces = false) {d : Nat} (hd : 1 ≤ d) {l0 : Nat} {m : ab_Mm} {z : (Int32 × ab_Mm)} (h : dd_X12_errorPosition l0 m = some z) : ab_Met l g yX12_errorPosition cX12_errorPosition 1 (some .int) [] d [.ref l0] m (.inl (some (.int z.1))) z.2 := by
  obtain ⟨d2, rfl⟩ : ∃ d2, d = d2 + 1 := ⟨d - 1, by omega⟩
  exact ab_of hl0 (by decide +kernel) (Nat.le_of_ble_eq_true rfl) (fun q => by cases q) rfl (te_X12_errorPosition hl0 hd _ _ _ h)
theorem tbb_X12_isOn_29 {l : Launch} {g : ab_G} (hl0 : l.stackTraces = false) {d2 : Nat} (hd : 3 ≤ d2 + 1)   (s0 : Int32) (m0 : ab_Mm) (z : (Int32 × ab_Mm)) (h : bb_X12_isOn_29  s0 m0 = some z) : ab_W l g cX12_isOn RX12 3 (some .boolean) [] false (d2 + 1) (.inl (some (.int z.1))) z.2 29 [] [.int s0] m0 := by
  unfold bb_X12_isOn_29 at h
  rcases ab_iff h with ⟨hc, h⟩ | ⟨hc, h⟩
  · cases h
  cases h
  exact ru_ret (v := some (.int _)) ⟨_, rfl, congrArg Value.int (Classical.not_not.mp hc), dX12_isOn_29⟩
theorem tbb_X12_isOn_28 {l : Launch} {g : ab_G} (hl0 : l.stackTraces = false) {d2 : Nat} (hd : 3 ≤ d2 + 1)    (m0 : ab_Mm) (z : (Int32 × ab_Mm)) (h : bb_X12_isOn_28   m0 = some z) : ab_W l g cX12_isOn RX12 3 (some .boolean) [] false (d2 + 1) (.inl (some (.int z.1))) z.2 28 [] [] m0 := by
  unfold bb_X12_isOn_28 at h
  refine ru_iconst dX12_isOn_28 kc_i_0 <| ?_
  exact ru_pick [] rfl (tbb_X12_isOn_29 hl0 hd   _ _ _ h)
theorem te_X12_isOn {l : Launch} {g : ab_G} (hl0 : l.stackTraces = false) {d2 : Nat} (hd : 3 ≤ d2 + 1)   (l0 : Nat) (l1 : Int32) (l2 : Int32) (m0 : ab_Mm) (z : (Int32 × ab_Mm)) (h : dd_X12_isOn  l0 l1 l2 m0 = some z) : ab_W l g cX12_isOn RX12 3 (some .boolean) [] false (d2 + 1) (.inl (some (.int z.1))) z.2 0 [(0, .ref l0), (1, .int l1), (2, .int l2)] [] m0 := by
  unfold dd_X12_isOn at h
  refine ru_aload_n (i := 0) dX12_isOn_0 rfl rfl <| ru_iload_n (i := 1) dX12_isOn_1 rfl rfl <| ?_
  obtain ⟨_, hrc, h⟩ := Option.bind_eq_some_iff.mp h
  obtain ⟨q1, hq1, h⟩ := Option.bind_eq_some_iff.mp h
  refine ru_callV (tm_X12_runs hl0 (by omega) hq1) dX12_isOn_2 rfl pm_X12_264 mf_X12_runs (ab_rcv_of hrc rfl) rfl rfl (Nat.le_of_ble_eq_true rfl) ?_
  refine ru_if_eq (tgt := 28) dX12_isOn_5 (by decide) (fun hc => ?_) (fun hc => ?_)
  · rw [if_pos hc] at h
    exact ru_pick [] rfl (tbb_X12_isOn_28 hl0 hd    _ _ h)
  · rw [if_neg hc] at h
    refine ru_aload_n (i := 0) dX12_isOn_8 rfl rfl <| ?_
    refine ru_getR h dX12_isOn_9 lk_X12_7 ?_
    intro v2 h
    refine ru_iload_n (i := 1) dX12_isOn_12 rfl rfl <| ru_iconst dX12_isOn_13 kc_i_2 <| ?_
    obtain ⟨q3, hq3, h⟩ := Option.bind_eq_some_iff.mp h
    refine ru_callS (tm_X12_of hl0 (by omega) hq3) dX12_isOn_14 rfl pm_X12_238 mf_X12_of rfl rfl (Nat.le_of_ble_eq_true rfl) ?_
    refine ru_laload h dX12_isOn_17 ?_
    intro v4 h
    refine ru_iload_n (i := 2) dX12_isOn_18 rfl rfl <| ru_i2l dX12_isOn_19 <| ru_lcmp dX12_isOn_20 <| ?_
    refine ru_if_ne (tgt := 28) dX12_isOn_21 (by decide) (fun hc => ?_) (fun hc => ?_)
    · rw [if_neg hc] at h
      exact ru_pick [] rfl (tbb_X12_isOn_28 hl0 hd    _ _ h)
    · rw [if_pos hc] at h
      refine ru_iconst dX12_isOn_24 kc_i_1 <| ru_goto (tgt := 29) dX12_isOn_25 (by decide) <| ?_
      exact ru_pick [] rfl (tbb_X12_isOn_29 hl0 hd   _ _ _ h)
theorem tm_X12_isOn {l : Launch} {g : ab_G} (hl0 : l.stackTraces = false) {d : Nat} (hd : 3 ≤ d) {l0 : Nat} {l1 : Int32} {l2 : Int32} {m : ab_Mm} {z : (Int32 × ab_Mm)} (h : dd_X12_isOn l0 l1 l2 m = some z) : ab_Met l g yX12_isOn cX12_isOn 3 (some .boolean) [] d [.ref l0, .int l1, .int l2] m (.inl (some (.int z.1))) z.2 := by
  obtain ⟨d2, rfl⟩ : ∃ d2, d = d2 + 1 := ⟨d - 1, by omega⟩
  exact ab_of hl0 (by decide +kernel) (Nat.le_of_ble_eq_true rfl) (fun q => by cases q) rfl (te_X12_isOn hl0 hd _ _ _ _ _ h)
theorem tbb_X12_freeOf_52 {l : Launch} {g : ab_G} (hl0 : l.stackTraces = false) {d2 : Nat} (hd : 4 ≤ d2 + 1) (r14 : Nat → Int32 → Int32 → Int32 → Int32 → ab_Mm → Option (Int32 × ab_Mm)) (hr14 : ∀ (l0 : Nat) (l1 : Int32) (l2 : Int32) (l3 : Int32) (l4 : Int32) (m : ab_Mm) (z : (Int32 × ab_Mm)), r14 l0 l1 l2 l3 l4 m = some z → ab_W l g cX12_freeOf RX12 5 (some .int) [] false (d2 + 1) (.inl (some (.int z.1))) z.2 14 [(0, .ref l0), (1, .int l1), (2, .int l2), (3, .int l3), (4, .int l4)] [] m) (l0 : Nat) (l1 : Int32) (l2 : Int32) (l4 : Int32) (s0 : Int32) (s1 : Int32) (m0 : ab_Mm) (z : (Int32 × ab_Mm)) (h : bb_X12_freeOf_52 r14 l0 l1 l2 l4 s0 s1 m0 = some z) : ab_W l g cX12_freeOf RX12 5 (some .int) [] false (d2 + 1) (.inl (some (.int z.1))) z.2 52 [(0, .ref l0), (1, .int l1), (2, .int l2), (4, .int l4)] [.int s1, .int s0] m0 := by
  unfold bb_X12_freeOf_52 at h
  refine ru_isub dX12_freeOf_52 <| ru_istore_n (i := 3) dX12_freeOf_53 rfl (by decide) <| ru_iinc dX12_freeOf_54 (by decide) rfl (ab_inc kc_i_1) <| ru_goto (tgt := 14) dX12_freeOf_57 (by decide) <| ?_
  exact ru_pick [0, 1, 2, 3, 4] rfl (hr14 _ _ _ _ _ _ _ h)
theorem tbb_X12_freeOf_14 {l : Launch} {g : ab_G} (hl0 : l.stackTraces = false) {d2 : Nat} (hd : 4 ≤ d2 + 1)   : ∀ (n : Nat) (l0 : Nat) (l1 : Int32) (l2 : Int32) (l3 : Int32) (l4 : Int32) (m0 : ab_Mm) (z : (Int32 × ab_Mm)), bb_X12_freeOf_14  n l0 l1 l2 l3 l4 m0 = some z → ab_W l g cX12_freeOf RX12 5 (some .int) [] false (d2 + 1) (.inl (some (.int z.1))) z.2 14 [(0, .ref l0), (1, .int l1), (2, .int l2), (3, .int l3), (4, .int l4)] [] m0 := by
  intro n
  induction n with
  | zero => intro l0 l1 l2 l3 l4 m0 z h; cases h
  | succ n ih =>
    intro l0 l1 l2 l3 l4 m0 z h
    rw [bb_X12_freeOf_14] at h
    refine ru_iload dX12_freeOf_14 rfl <| ru_bipush dX12_freeOf_16 kc_b_12 <| ?_
    refine ru_icmp_ge (tgt := 60) dX12_freeOf_18 (by decide) (fun hc => ?_) (fun hc => ?_)
    · rw [if_pos hc] at h
      refine ru_iload_n (i := 3) dX12_freeOf_60 rfl rfl <| ?_
      cases h
      exact ru_ret (v := some (.int _)) ⟨_, rfl, rfl, dX12_freeOf_61⟩
    · rw [if_neg hc] at h
      refine ru_iload_n (i := 3) dX12_freeOf_21 rfl rfl <| ru_aload_n (i := 0) dX12_freeOf_22 rfl rfl <| ru_iload dX12_freeOf_23 rfl <| ru_iload_n (i := 1) dX12_freeOf_25 rfl rfl <| ?_
      obtain ⟨_, hrc, h⟩ := Option.bind_eq_some_iff.mp h
      obtain ⟨q1, hq1, h⟩ := Option.bind_eq_some_iff.mp h
      refine ru_callV (tm_X12_isOn hl0 (by omega) hq1) dX12_freeOf_26 rfl pm_X12_267 mf_X12_isOn (ab_rcv_of hrc rfl) rfl rfl (Nat.le_of_ble_eq_true rfl) ?_
      refine ru_if_eq (tgt := 51) dX12_freeOf_29 (by decide) (fun hc => ?_) (fun hc => ?_)
      · rw [if_pos hc] at h
        refine ru_iconst dX12_freeOf_51 kc_i_0 <| ?_
        exact ru_pick [0, 1, 2, 4] rfl (tbb_X12_freeOf_52 hl0 hd _ ih _ _ _ _ _ _ _ _ h)
      · rw [if_neg hc] at h
        refine ru_aload_n (i := 0) dX12_freeOf_32 rfl rfl <| ?_
        refine ru_getR h dX12_freeOf_33 lk_X12_20 ?_
        intro v2 h
        refine ru_iconst dX12_freeOf_36 kc_i_3 <| ru_aload_n (i := 0) dX12_freeOf_37 rfl rfl <| ru_iload dX12_freeOf_38 rfl <| ru_iconst dX12_freeOf_40 kc_i_1 <| ?_
        obtain ⟨_, hrc, h⟩ := Option.bind_eq_some_iff.mp h
        obtain ⟨q3, hq3, h⟩ := Option.bind_eq_some_iff.mp h
        refine ru_callV (tm_X12_its hl0 (by omega) hq3) dX12_freeOf_41 rfl pm_X12_242 mf_X12_its (ab_rcv_of hrc rfl) rfl rfl (Nat.le_of_ble_eq_true rfl) ?_
        refine ru_imul dX12_freeOf_44 <| ru_iload_n (i := 2) dX12_freeOf_45 rfl rfl <| ru_iadd dX12_freeOf_46 <| ?_
        refine ru_iaload h dX12_freeOf_47 ?_
        intro v4 h
        refine ru_goto (tgt := 52) dX12_freeOf_48 (by decide) <| ?_
        exact ru_pick [0, 1, 2, 4] rfl (tbb_X12_freeOf_52 hl0 hd _ ih _ _ _ _ _ _ _ _ h)
theorem te_X12_freeOf {l : Launch} {g : ab_G} (hl0 : l.stackTraces = false) {d2 : Nat} (hd : 4 ≤ d2 + 1)   (l0 : Nat) (l1 : Int32) (l2 : Int32) (m0 : ab_Mm) (z : (Int32 × ab_Mm)) (h : dd_X12_freeOf  l0 l1 l2 m0 = some z) : ab_W l g cX12_freeOf RX12 5 (some .int) [] false (d2 + 1) (.inl (some (.int z.1))) z.2 0 [(0, .ref l0), (1, .int l1), (2, .int l2)] [] m0 := by
  unfold dd_X12_freeOf at h
  refine ru_aload_n (i := 0) dX12_freeOf_0 rfl rfl <| ?_
  refine ru_getR h dX12_freeOf_1 lk_X12_17 ?_
  intro v1 h
  refine ru_iconst dX12_freeOf_4 kc_i_2 <| ru_iload_n (i := 1) dX12_freeOf_5 rfl rfl <| ru_imul dX12_freeOf_6 <| ru_iload_n (i := 2) dX12_freeOf_7 rfl rfl <| ru_iadd dX12_freeOf_8 <| ?_
  refine ru_iaload h dX12_freeOf_9 ?_
  intro v2 h
  refine ru_istore_n (i := 3) dX12_freeOf_10 rfl (by decide) <| ru_iconst dX12_freeOf_11 kc_i_0 <| ru_istore dX12_freeOf_12 (by decide) <| ?_
  exact ru_pick [0, 1, 2, 3, 4] rfl (tbb_X12_freeOf_14 hl0 hd   _ _ _ _ _ _ _ _ h)
theorem tm_X12_freeOf {l : Launch} {g : ab_G} (hl0 : l.stackTraces = false) {d : Nat} (hd : 4 ≤ d) {l0 : Nat} {l1 : Int32} {l2 : Int32} {m : ab_Mm} {z : (Int32 × ab_Mm)} (h : dd_X12_freeOf l0 l1 l2 m = some z) : ab_Met l g yX12_freeOf cX12_freeOf 5 (some .int) [] d [.ref l0, .int l1, .int l2] m (.inl (some (.int z.1))) z.2 := by
  obtain ⟨d2, rfl⟩ : ∃ d2, d = d2 + 1 := ⟨d - 1, by omega⟩
  exact ab_of hl0 (by decide +kernel) (Nat.le_of_ble_eq_true rfl) (fun q => by cases q) rfl (te_X12_freeOf hl0 hd _ _ _ _ _ h)
theorem tbb_X12_fits_41 {l : Launch} {g : ab_G} (hl0 : l.stackTraces = false) {d2 : Nat} (hd : 5 ≤ d2 + 1)   (s0 : Int32) (m0 : ab_Mm) (z : (Int32 × ab_Mm)) (h : bb_X12_fits_41  s0 m0 = some z) : ab_W l g cX12_fits RX12 3 (some .boolean) [] false (d2 + 1) (.inl (some (.int z.1))) z.2 41 [] [.int s0] m0 := by
  unfold bb_X12_fits_41 at h
  rcases ab_iff h with ⟨hc, h⟩ | ⟨hc, h⟩
  · cases h
  cases h
  exact ru_ret (v := some (.int _)) ⟨_, rfl, congrArg Value.int (Classical.not_not.mp hc), dX12_fits_41⟩
theorem tbb_X12_fits_40 {l : Launch} {g : ab_G} (hl0 : l.stackTraces = false) {d2 : Nat} (hd : 5 ≤ d2 + 1)    (m0 : ab_Mm) (z : (Int32 × ab_Mm)) (h : bb_X12_fits_40   m0 = some z) : ab_W l g cX12_fits RX12 3 (some .boolean) [] false (d2 + 1) (.inl (some (.int z.1))) z.2 40 [] [] m0 := by
  unfold bb_X12_fits_40 at h
  refine ru_iconst dX12_fits_40 kc_i_0 <| ?_
  exact ru_pick [] rfl (tbb_X12_fits_41 hl0 hd   _ _ _ h)
theorem te_X12_fits {l : Launch} {g : ab_G} (hl0 : l.stackTraces = false) {d2 : Nat} (hd : 5 ≤ d2 + 1)   (l0 : Nat) (l1 : Int32) (l2 : Int32) (m0 : ab_Mm) (z : (Int32 × ab_Mm)) (h : dd_X12_fits  l0 l1 l2 m0 = some z) : ab_W l g cX12_fits RX12 3 (some .boolean) [] false (d2 + 1) (.inl (some (.int z.1))) z.2 0 [(0, .ref l0), (1, .int l1), (2, .int l2)] [] m0 := by
  unfold dd_X12_fits at h
  refine ru_aload_n (i := 0) dX12_fits_0 rfl rfl <| ?_
  refine ru_getR h dX12_fits_1 lk_X12_20 ?_
  intro v1 h
  refine ru_iconst dX12_fits_4 kc_i_3 <| ru_iload_n (i := 1) dX12_fits_5 rfl rfl <| ru_imul dX12_fits_6 <| ?_
  refine ru_iaload h dX12_fits_7 ?_
  intro v2 h
  refine ru_aload_n (i := 0) dX12_fits_8 rfl rfl <| ru_iload_n (i := 2) dX12_fits_9 rfl rfl <| ru_iconst dX12_fits_10 kc_i_0 <| ?_
  obtain ⟨_, hrc, h⟩ := Option.bind_eq_some_iff.mp h
  obtain ⟨q3, hq3, h⟩ := Option.bind_eq_some_iff.mp h
  refine ru_callV (tm_X12_freeOf hl0 (by omega) hq3) dX12_fits_11 rfl pm_X12_270 mf_X12_freeOf (ab_rcv_of hrc rfl) rfl rfl (Nat.le_of_ble_eq_true rfl) ?_
  refine ru_icmp_gt (tgt := 40) dX12_fits_14 (by decide) (fun hc => ?_) (fun hc => ?_)
  · rw [if_pos hc] at h
    exact ru_pick [] rfl (tbb_X12_fits_40 hl0 hd    _ _ h)
  · rw [if_neg hc] at h
    refine ru_aload_n (i := 0) dX12_fits_17 rfl rfl <| ?_
    refine ru_getR h dX12_fits_18 lk_X12_20 ?_
    intro v4 h
    refine ru_iconst dX12_fits_21 kc_i_3 <| ru_iload_n (i := 1) dX12_fits_22 rfl rfl <| ru_imul dX12_fits_23 <| ru_iconst dX12_fits_24 kc_i_1 <| ru_iadd dX12_fits_25 <| ?_
    refine ru_iaload h dX12_fits_26 ?_
    intro v5 h
    refine ru_aload_n (i := 0) dX12_fits_27 rfl rfl <| ru_iload_n (i := 2) dX12_fits_28 rfl rfl <| ru_iconst dX12_fits_29 kc_i_1 <| ?_
    obtain ⟨_, hrc, h⟩ := Option.bind_eq_some_iff.mp h
    obtain ⟨q6, hq6, h⟩ := Option.bind_eq_some_iff.mp h
    refine ru_callV (tm_X12_freeOf hl0 (by omega) hq6) dX12_fits_30 rfl pm_X12_270 mf_X12_freeOf (ab_rcv_of hrc rfl) rfl rfl (Nat.le_of_ble_eq_true rfl) ?_
    refine ru_icmp_gt (tgt := 40) dX12_fits_33 (by decide) (fun hc => ?_) (fun hc => ?_)
    · rw [if_pos hc] at h
      exact ru_pick [] rfl (tbb_X12_fits_40 hl0 hd    _ _ h)
    · rw [if_neg hc] at h
      refine ru_iconst dX12_fits_36 kc_i_1 <| ru_goto (tgt := 41) dX12_fits_37 (by decide) <| ?_
      exact ru_pick [] rfl (tbb_X12_fits_41 hl0 hd   _ _ _ h)
theorem tm_X12_fits {l : Launch} {g : ab_G} (hl0 : l.stackTraces = false) {d : Nat} (hd : 5 ≤ d) {l0 : Nat} {l1 : Int32} {l2 : Int32} {m : ab_Mm} {z : (Int32 × ab_Mm)} (h : dd_X12_fits l0 l1 l2 m = some z) : ab_Met l g yX12_fits cX12_fits 3 (some .boolean) [] d [.ref l0, .int l1, .int l2] m (.inl (some (.int z.1))) z.2 := by
  obtain ⟨d2, rfl⟩ : ∃ d2, d = d2 + 1 := ⟨d - 1, by omega⟩
  exact ab_of hl0 (by decide +kernel) (Nat.le_of_ble_eq_true rfl) (fun q => by cases q) rfl (te_X12_fits hl0 hd _ _ _ _ _ h)
theorem tbb_X12_bestFor_59 {l : Launch} {g : ab_G} (hl0 : l.stackTraces = false) {d2 : Nat} (hd : 6 ≤ d2 + 1) (r9 : Nat → Int32 → Int32 → Int32 → Int32 → ab_Mm → Option (Int32 × ab_Mm)) (hr9 : ∀ (l0 : Nat) (l1 : Int32) (l2 : Int32) (l3 : Int32) (l4 : Int32) (m : ab_Mm) (z : (Int32 × ab_Mm)), r9 l0 l1 l2 l3 l4 m = some z → ab_W l g cX12_bestFor RX12 6 (some .int) [] false (d2 + 1) (.inl (some (.int z.1))) z.2 9 [(0, .ref l0), (1, .int l1), (2, .int l2), (3, .int l3), (4, .int l4)] [] m) (l0 : Nat) (l1 : Int32) (l2 : Int32) (l3 : Int32) (l4 : Int32) (m0 : ab_Mm) (z : (Int32 × ab_Mm)) (h : bb_X12_bestFor_59 r9 l0 l1 l2 l3 l4 m0 = some z) : ab_W l g cX12_bestFor RX12 6 (some .int) [] false (d2 + 1) (.inl (some (.int z.1))) z.2 59 [(0, .ref l0), (1, .int l1), (2, .int l2), (3, .int l3), (4, .int l4)] [] m0 := by
  unfold bb_X12_bestFor_59 at h
  refine ru_iinc dX12_bestFor_59 (by decide) rfl (ab_inc kc_i_1) <| ru_goto (tgt := 9) dX12_bestFor_62 (by decide) <| ?_
  exact ru_pick [0, 1, 2, 3, 4] rfl (hr9 _ _ _ _ _ _ _ h)
theorem tbb_X12_bestFor_9 {l : Launch} {g : ab_G} (hl0 : l.stackTraces = false) {d2 : Nat} (hd : 6 ≤ d2 + 1)   : ∀ (n : Nat) (l0 : Nat) (l1 : Int32) (l2 : Int32) (l3 : Int32) (l4 : Int32) (m0 : ab_Mm) (z : (Int32 × ab_Mm)), bb_X12_bestFor_9  n l0 l1 l2 l3 l4 m0 = some z → ab_W l g cX12_bestFor RX12 6 (some .int) [] false (d2 + 1) (.inl (some (.int z.1))) z.2 9 [(0, .ref l0), (1, .int l1), (2, .int l2), (3, .int l3), (4, .int l4)] [] m0 := by
  intro n
  induction n with
  | zero => intro l0 l1 l2 l3 l4 m0 z h; cases h
  | succ n ih =>
    intro l0 l1 l2 l3 l4 m0 z h
    rw [bb_X12_bestFor_9] at h
    refine ru_iload dX12_bestFor_9 rfl <| ru_aload_n (i := 0) dX12_bestFor_11 rfl rfl <| ?_
    refine ru_getR h dX12_bestFor_12 lk_X12_13 ?_
    intro v1 h
    refine ru_iconst dX12_bestFor_15 kc_i_0 <| ?_
    refine ru_iaload h dX12_bestFor_16 ?_
    intro v2 h
    refine ru_icmp_ge (tgt := 65) dX12_bestFor_17 (by decide) (fun hc => ?_) (fun hc => ?_)
    · rw [if_pos hc] at h
      refine ru_iload_n (i := 2) dX12_bestFor_65 rfl rfl <| ?_
      cases h
      exact ru_ret (v := some (.int _)) ⟨_, rfl, rfl, dX12_bestFor_66⟩
    · rw [if_neg hc] at h
      refine ru_aload_n (i := 0) dX12_bestFor_20 rfl rfl <| ru_iload dX12_bestFor_21 rfl <| ru_iconst dX12_bestFor_23 kc_i_0 <| ?_
      obtain ⟨_, hrc, h⟩ := Option.bind_eq_some_iff.mp h
      obtain ⟨q3, hq3, h⟩ := Option.bind_eq_some_iff.mp h
      refine ru_callV (tm_X12_freeOf hl0 (by omega) hq3) dX12_bestFor_24 rfl pm_X12_270 mf_X12_freeOf (ab_rcv_of hrc rfl) rfl rfl (Nat.le_of_ble_eq_true rfl) ?_
      refine ru_aload_n (i := 0) dX12_bestFor_27 rfl rfl <| ru_iload dX12_bestFor_28 rfl <| ru_iconst dX12_bestFor_30 kc_i_1 <| ?_
      obtain ⟨_, hrc, h⟩ := Option.bind_eq_some_iff.mp h
      obtain ⟨q4, hq4, h⟩ := Option.bind_eq_some_iff.mp h
      refine ru_callV (tm_X12_freeOf hl0 (by omega) hq4) dX12_bestFor_31 rfl pm_X12_270 mf_X12_freeOf (ab_rcv_of hrc rfl) rfl rfl (Nat.le_of_ble_eq_true rfl) ?_
      refine ru_iadd dX12_bestFor_34 <| ru_istore dX12_bestFor_35 (by decide) <| ru_aload_n (i := 0) dX12_bestFor_37 rfl rfl <| ru_iload_n (i := 1) dX12_bestFor_38 rfl rfl <| ru_iload dX12_bestFor_39 rfl <| ?_
      obtain ⟨_, hrc, h⟩ := Option.bind_eq_some_iff.mp h
      obtain ⟨q5, hq5, h⟩ := Option.bind_eq_some_iff.mp h
      refine ru_callV (tm_X12_fits hl0 (by omega) hq5) dX12_bestFor_41 rfl pm_X12_276 mf_X12_fits (ab_rcv_of hrc rfl) rfl rfl (Nat.le_of_ble_eq_true rfl) ?_
      refine ru_if_eq (tgt := 59) dX12_bestFor_44 (by decide) (fun hc => ?_) (fun hc => ?_)
      · rw [if_pos hc] at h
        exact ru_pick [0, 1, 2, 3, 4] rfl (tbb_X12_bestFor_59 hl0 hd _ ih _ _ _ _ _ _ _ h)
      · rw [if_neg hc] at h
        refine ru_iload dX12_bestFor_47 rfl <| ru_iload_n (i := 3) dX12_bestFor_49 rfl rfl <| ?_
        refine ru_icmp_ge (tgt := 59) dX12_bestFor_50 (by decide) (fun hc => ?_) (fun hc => ?_)
        · rw [if_pos hc] at h
          exact ru_pick [0, 1, 2, 3, 4] rfl (tbb_X12_bestFor_59 hl0 hd _ ih _ _ _ _ _ _ _ h)
        · rw [if_neg hc] at h
          refine ru_iload dX12_bestFor_53 rfl <| ru_istore_n (i := 2) dX12_bestFor_55 rfl (by decide) <| ru_iload dX12_bestFor_56 rfl <| ru_istore_n (i := 3) dX12_bestFor_58 rfl (by decide) <| ?_
          exact ru_pick [0, 1, 2, 3, 4] rfl (tbb_X12_bestFor_59 hl0 hd _ ih _ _ _ _ _ _ _ h)
theorem te_X12_bestFor {l : Launch} {g : ab_G} (hl0 : l.stackTraces = false) {d2 : Nat} (hd : 6 ≤ d2 + 1)   (l0 : Nat) (l1 : Int32) (m0 : ab_Mm) (z : (Int32 × ab_Mm)) (h : dd_X12_bestFor  l0 l1 m0 = some z) : ab_W l g cX12_bestFor RX12 6 (some .int) [] false (d2 + 1) (.inl (some (.int z.1))) z.2 0 [(0, .ref l0), (1, .int l1)] [] m0 := by
  unfold dd_X12_bestFor at h
  refine ru_iconst dX12_bestFor_0 kc_i_m1 <| ru_istore_n (i := 2) dX12_bestFor_1 rfl (by decide) <| ru_ldc_w dX12_bestFor_2 pk_X12_275 <| ru_istore_n (i := 3) dX12_bestFor_5 rfl (by decide) <| ru_iconst dX12_bestFor_6 kc_i_0 <| ru_istore dX12_bestFor_7 (by decide) <| ?_
  exact ru_pick [0, 1, 2, 3, 4] rfl (tbb_X12_bestFor_9 hl0 hd   _ _ _ _ _ _ _ _ h)
theorem tm_X12_bestFor {l : Launch} {g : ab_G} (hl0 : l.stackTraces = false) {d : Nat} (hd : 6 ≤ d) {l0 : Nat} {l1 : Int32} {m : ab_Mm} {z : (Int32 × ab_Mm)} (h : dd_X12_bestFor l0 l1 m = some z) : ab_Met l g yX12_bestFor cX12_bestFor 6 (some .int) [] d [.ref l0, .int l1] m (.inl (some (.int z.1))) z.2 := by
  obtain ⟨d2, rfl⟩ : ∃ d2, d = d2 + 1 := ⟨d - 1, by omega⟩
  exact ab_of hl0 (by decide +kernel) (Nat.le_of_ble_eq_true rfl) (fun q => by cases q) rfl (te_X12_bestFor hl0 hd _ _ _ _ h)
theorem tbb_X12_no_23 {l : Launch} {g : ab_G} (hl0 : l.stackTraces = false) {d2 : Nat} (hd : 2 ≤ d2 + 1)   (s0 : Nat) (s1 : Int32) (m0 : ab_Mm) (z : (Int32 × ab_Mm)) (h : bb_X12_no_23  s0 s1 m0 = some z) : ab_W l g cX12_no RX12 4 (some .boolean) [] false (d2 + 1) (.inl (some (.int z.1))) z.2 23 [] [.int s1, .ref s0] m0 := by
  unfold bb_X12_no_23 at h
  refine ru_iconst dX12_no_23 kc_i_1 <| ?_
  obtain ⟨_, hrc, h⟩ := Option.bind_eq_some_iff.mp h
  obtain ⟨q1, hq1, h⟩ := Option.bind_eq_some_iff.mp h
  refine ru_callV (tm_X12_throwsIf hl0 (by omega) hq1) dX12_no_24 rfl pm_X12_249 mf_X12_throwsIf (ab_rcv_of hrc rfl) rfl rfl (Nat.le_of_ble_eq_true rfl) ?_
  rcases ab_iff h with ⟨hc, h⟩ | ⟨hc, h⟩
  · cases h
  cases h
  exact ru_ret (v := some (.int _)) ⟨_, rfl, congrArg Value.int (Classical.not_not.mp hc), dX12_no_27⟩
theorem te_X12_no {l : Launch} {g : ab_G} (hl0 : l.stackTraces = false) {d2 : Nat} (hd : 2 ≤ d2 + 1)   (l0 : Nat) (l1 : Int64) (l3 : Int32) (m0 : ab_Mm) (z : (Int32 × ab_Mm)) (h : dd_X12_no  l0 l1 l3 m0 = some z) : ab_W l g cX12_no RX12 4 (some .boolean) [] false (d2 + 1) (.inl (some (.int z.1))) z.2 0 [(0, .ref l0), (1, .long l1), (3, .int l3)] [] m0 := by
  unfold dd_X12_no at h
  refine ru_aload_n (i := 0) dX12_no_0 rfl rfl <| ru_iconst dX12_no_1 kc_i_0 <| ?_
  refine ru_putI h dX12_no_2 lk_X12_83 ?_
  intro m1 h
  refine ru_aload_n (i := 0) dX12_no_5 rfl rfl <| ru_lload_n (i := 1) dX12_no_6 rfl rfl <| ru_lconst dX12_no_7 (v := 0) rfl <| ru_iload_n (i := 3) dX12_no_8 rfl rfl <| ru_iconst dX12_no_9 kc_i_1 <| ru_isub dX12_no_10 <| ru_i2l dX12_no_11 <| ?_
  obtain ⟨q2, hq2, h⟩ := Option.bind_eq_some_iff.mp h
  refine ru_callS (tm_X12_within hl0 (by omega) hq2) dX12_no_12 rfl pm_X12_124 mf_X12_within rfl rfl (Nat.le_of_ble_eq_true rfl) ?_
  refine ru_if_ne (tgt := 22) dX12_no_15 (by decide) (fun hc => ?_) (fun hc => ?_)
  · rw [if_neg hc] at h
    refine ru_iconst dX12_no_22 kc_i_0 <| ?_
    exact ru_pick [] rfl (tbb_X12_no_23 hl0 hd   _ _ _ _ h)
  · rw [if_pos hc] at h
    refine ru_iconst dX12_no_18 kc_i_1 <| ru_goto (tgt := 23) dX12_no_19 (by decide) <| ?_
    exact ru_pick [] rfl (tbb_X12_no_23 hl0 hd   _ _ _ _ h)
theorem tm_X12_no {l : Launch} {g : ab_G} (hl0 : l.stackTraces = false) {d : Nat} (hd : 2 ≤ d) {l0 : Nat} {l1 : Int64} {l3 : Int32} {m : ab_Mm} {z : (Int32 × ab_Mm)} (h : dd_X12_no l0 l1 l3 m = some z) : ab_Met l g yX12_no cX12_no 4 (some .boolean) [] d [.ref l0, .long l1, .int l3] m (.inl (some (.int z.1))) z.2 := by
  obtain ⟨d2, rfl⟩ : ∃ d2, d = d2 + 1 := ⟨d - 1, by omega⟩
  exact ab_of hl0 (by decide +kernel) (Nat.le_of_ble_eq_true rfl) (fun q => by cases q) rfl (te_X12_no hl0 hd _ _ _ _ _ h)
theorem te_X12_noHost {l : Launch} {g : ab_G} (hl0 : l.stackTraces = false) {d2 : Nat} (hd : 3 ≤ d2 + 1)   (l0 : Nat) (l1 : Int32) (m0 : ab_Mm) (z : (Int32 × ab_Mm)) (h : dd_X12_noHost  l0 l1 m0 = some z) : ab_W l g cX12_noHost RX12 2 (some .boolean) [] false (d2 + 1) (.inl (some (.int z.1))) z.2 0 [(0, .ref l0), (1, .int l1)] [] m0 := by
  unfold dd_X12_noHost at h
  refine ru_aload_n (i := 0) dX12_noHost_0 rfl rfl <| ru_iload_n (i := 1) dX12_noHost_1 rfl rfl <| ru_i2l dX12_noHost_2 <| ru_aload_n (i := 0) dX12_noHost_3 rfl rfl <| ?_
  refine ru_getR h dX12_noHost_4 lk_X12_13 ?_
  intro v1 h
  refine ru_iconst dX12_noHost_7 kc_i_0 <| ?_
  refine ru_iaload h dX12_noHost_8 ?_
  intro v2 h
  obtain ⟨_, hrc, h⟩ := Option.bind_eq_some_iff.mp h
  obtain ⟨q3, hq3, h⟩ := Option.bind_eq_some_iff.mp h
  refine ru_callV (tm_X12_no hl0 (by omega) hq3) dX12_noHost_9 rfl pm_X12_285 mf_X12_no (ab_rcv_of hrc rfl) rfl rfl (Nat.le_of_ble_eq_true rfl) ?_
  rcases ab_iff h with ⟨hc, h⟩ | ⟨hc, h⟩
  · cases h
  cases h
  exact ru_ret (v := some (.int _)) ⟨_, rfl, congrArg Value.int (Classical.not_not.mp hc), dX12_noHost_12⟩
theorem tm_X12_noHost {l : Launch} {g : ab_G} (hl0 : l.stackTraces = false) {d : Nat} (hd : 3 ≤ d) {l0 : Nat} {l1 : Int32} {m : ab_Mm} {z : (Int32 × ab_Mm)} (h : dd_X12_noHost l0 l1 m = some z) : ab_Met l g yX12_noHost cX12_noHost 2 (some .boolean) [] d [.ref l0, .int l1] m (.inl (some (.int z.1))) z.2 := by
  obtain ⟨d2, rfl⟩ : ∃ d2, d = d2 + 1 := ⟨d - 1, by omega⟩
  exact ab_of hl0 (by decide +kernel) (Nat.le_of_ble_eq_true rfl) (fun q => by cases q) rfl (te_X12_noHost hl0 hd _ _ _ _ h)
theorem te_X12_noType {l : Launch} {g : ab_G} (hl0 : l.stackTraces = false) {d2 : Nat} (hd : 3 ≤ d2 + 1)   (l0 : Nat) (l1 : Int32) (m0 : ab_Mm) (z : (Int32 × ab_Mm)) (h : dd_X12_noType  l0 l1 m0 = some z) : ab_W l g cX12_noType RX12 2 (some .boolean) [] false (d2 + 1) (.inl (some (.int z.1))) z.2 0 [(0, .ref l0), (1, .int l1)] [] m0 := by
  unfold dd_X12_noType at h
  refine ru_aload_n (i := 0) dX12_noType_0 rfl rfl <| ru_iload_n (i := 1) dX12_noType_1 rfl rfl <| ru_i2l dX12_noType_2 <| ru_aload_n (i := 0) dX12_noType_3 rfl rfl <| ?_
  refine ru_getR h dX12_noType_4 lk_X12_13 ?_
  intro v1 h
  refine ru_iconst dX12_noType_7 kc_i_1 <| ?_
  refine ru_iaload h dX12_noType_8 ?_
  intro v2 h
  obtain ⟨_, hrc, h⟩ := Option.bind_eq_some_iff.mp h
  obtain ⟨q3, hq3, h⟩ := Option.bind_eq_some_iff.mp h
  refine ru_callV (tm_X12_no hl0 (by omega) hq3) dX12_noType_9 rfl pm_X12_285 mf_X12_no (ab_rcv_of hrc rfl) rfl rfl (Nat.le_of_ble_eq_true rfl) ?_
  rcases ab_iff h with ⟨hc, h⟩ | ⟨hc, h⟩
  · cases h
  cases h
  exact ru_ret (v := some (.int _)) ⟨_, rfl, congrArg Value.int (Classical.not_not.mp hc), dX12_noType_12⟩
theorem tm_X12_noType {l : Launch} {g : ab_G} (hl0 : l.stackTraces = false) {d : Nat} (hd : 3 ≤ d) {l0 : Nat} {l1 : Int32} {m : ab_Mm} {z : (Int32 × ab_Mm)} (h : dd_X12_noType l0 l1 m = some z) : ab_Met l g yX12_noType cX12_noType 2 (some .boolean) [] d [.ref l0, .int l1] m (.inl (some (.int z.1))) z.2 := by
  obtain ⟨d2, rfl⟩ : ∃ d2, d = d2 + 1 := ⟨d - 1, by omega⟩
  exact ab_of hl0 (by decide +kernel) (Nat.le_of_ble_eq_true rfl) (fun q => by cases q) rfl (te_X12_noType hl0 hd _ _ _ _ h)
theorem te_X12_noTenant {l : Launch} {g : ab_G} (hl0 : l.stackTraces = false) {d2 : Nat} (hd : 3 ≤ d2 + 1)   (l0 : Nat) (l1 : Int32) (m0 : ab_Mm) (z : (Int32 × ab_Mm)) (h : dd_X12_noTenant  l0 l1 m0 = some z) : ab_W l g cX12_noTenant RX12 2 (some .boolean) [] false (d2 + 1) (.inl (some (.int z.1))) z.2 0 [(0, .ref l0), (1, .int l1)] [] m0 := by
  unfold dd_X12_noTenant at h
  refine ru_aload_n (i := 0) dX12_noTenant_0 rfl rfl <| ru_iload_n (i := 1) dX12_noTenant_1 rfl rfl <| ru_i2l dX12_noTenant_2 <| ru_aload_n (i := 0) dX12_noTenant_3 rfl rfl <| ?_
  refine ru_getR h dX12_noTenant_4 lk_X12_13 ?_
  intro v1 h
  refine ru_iconst dX12_noTenant_7 kc_i_2 <| ?_
  refine ru_iaload h dX12_noTenant_8 ?_
  intro v2 h
  obtain ⟨_, hrc, h⟩ := Option.bind_eq_some_iff.mp h
  obtain ⟨q3, hq3, h⟩ := Option.bind_eq_some_iff.mp h
  refine ru_callV (tm_X12_no hl0 (by omega) hq3) dX12_noTenant_9 rfl pm_X12_285 mf_X12_no (ab_rcv_of hrc rfl) rfl rfl (Nat.le_of_ble_eq_true rfl) ?_
  rcases ab_iff h with ⟨hc, h⟩ | ⟨hc, h⟩
  · cases h
  cases h
  exact ru_ret (v := some (.int _)) ⟨_, rfl, congrArg Value.int (Classical.not_not.mp hc), dX12_noTenant_12⟩
theorem tm_X12_noTenant {l : Launch} {g : ab_G} (hl0 : l.stackTraces = false) {d : Nat} (hd : 3 ≤ d) {l0 : Nat} {l1 : Int32} {m : ab_Mm} {z : (Int32 × ab_Mm)} (h : dd_X12_noTenant l0 l1 m = some z) : ab_Met l g yX12_noTenant cX12_noTenant 2 (some .boolean) [] d [.ref l0, .int l1] m (.inl (some (.int z.1))) z.2 := by
  obtain ⟨d2, rfl⟩ : ∃ d2, d = d2 + 1 := ⟨d - 1, by omega⟩
  exact ab_of hl0 (by decide +kernel) (Nat.le_of_ble_eq_true rfl) (fun q => by cases q) rfl (te_X12_noTenant hl0 hd _ _ _ _ h)
theorem tbb_X12_noInstance_37 {l : Launch} {g : ab_G} (hl0 : l.stackTraces = false) {d2 : Nat} (hd : 3 ≤ d2 + 1)   (s0 : Int32) (m0 : ab_Mm) (z : (Int32 × ab_Mm)) (h : bb_X12_noInstance_37  s0 m0 = some z) : ab_W l g cX12_noInstance RX12 2 (some .boolean) [] false (d2 + 1) (.inl (some (.int z.1))) z.2 37 [] [.int s0] m0 := by
  unfold bb_X12_noInstance_37 at h
  rcases ab_iff h with ⟨hc, h⟩ | ⟨hc, h⟩
  · cases h
  cases h
  exact ru_ret (v := some (.int _)) ⟨_, rfl, congrArg Value.int (Classical.not_not.mp hc), dX12_noInstance_37⟩
theorem tbb_X12_noInstance_32 {l : Launch} {g : ab_G} (hl0 : l.stackTraces = false) {d2 : Nat} (hd : 3 ≤ d2 + 1)    (m0 : ab_Mm) (z : (Int32 × ab_Mm)) (h : bb_X12_noInstance_32   m0 = some z) : ab_W l g cX12_noInstance RX12 2 (some .boolean) [] false (d2 + 1) (.inl (some (.int z.1))) z.2 32 [] [] m0 := by
  unfold bb_X12_noInstance_32 at h
  refine ru_iconst dX12_noInstance_32 kc_i_1 <| ru_goto (tgt := 37) dX12_noInstance_33 (by decide) <| ?_
  exact ru_pick [] rfl (tbb_X12_noInstance_37 hl0 hd   _ _ _ h)
theorem tbb_X12_noInstance_25 {l : Launch} {g : ab_G} (hl0 : l.stackTraces = false) {d2 : Nat} (hd : 3 ≤ d2 + 1)   (s0 : Nat) (s1 : Int32) (m0 : ab_Mm) (z : (Int32 × ab_Mm)) (h : bb_X12_noInstance_25  s0 s1 m0 = some z) : ab_W l g cX12_noInstance RX12 2 (some .boolean) [] false (d2 + 1) (.inl (some (.int z.1))) z.2 25 [] [.int s1, .ref s0] m0 := by
  unfold bb_X12_noInstance_25 at h
  refine ru_iconst dX12_noInstance_25 kc_i_1 <| ?_
  obtain ⟨_, hrc, h⟩ := Option.bind_eq_some_iff.mp h
  obtain ⟨q1, hq1, h⟩ := Option.bind_eq_some_iff.mp h
  refine ru_callV (tm_X12_throwsIf hl0 (by omega) hq1) dX12_noInstance_26 rfl pm_X12_249 mf_X12_throwsIf (ab_rcv_of hrc rfl) rfl rfl (Nat.le_of_ble_eq_true rfl) ?_
  refine ru_if_eq (tgt := 36) dX12_noInstance_29 (by decide) (fun hc => ?_) (fun hc => ?_)
  · rw [if_pos hc] at h
    refine ru_iconst dX12_noInstance_36 kc_i_0 <| ?_
    exact ru_pick [] rfl (tbb_X12_noInstance_37 hl0 hd   _ _ _ h)
  · rw [if_neg hc] at h
    exact ru_pick [] rfl (tbb_X12_noInstance_32 hl0 hd    _ _ h)
theorem te_X12_noInstance {l : Launch} {g : ab_G} (hl0 : l.stackTraces = false) {d2 : Nat} (hd : 3 ≤ d2 + 1)   (l0 : Nat) (l1 : Int32) (m0 : ab_Mm) (z : (Int32 × ab_Mm)) (h : dd_X12_noInstance  l0 l1 m0 = some z) : ab_W l g cX12_noInstance RX12 2 (some .boolean) [] false (d2 + 1) (.inl (some (.int z.1))) z.2 0 [(0, .ref l0), (1, .int l1)] [] m0 := by
  unfold dd_X12_noInstance at h
  refine ru_aload_n (i := 0) dX12_noInstance_0 rfl rfl <| ru_iload_n (i := 1) dX12_noInstance_1 rfl rfl <| ru_i2l dX12_noInstance_2 <| ru_bipush dX12_noInstance_3 kc_b_12 <| ?_
  obtain ⟨_, hrc, h⟩ := Option.bind_eq_some_iff.mp h
  obtain ⟨q1, hq1, h⟩ := Option.bind_eq_some_iff.mp h
  refine ru_callV (tm_X12_no hl0 (by omega) hq1) dX12_noInstance_5 rfl pm_X12_285 mf_X12_no (ab_rcv_of hrc rfl) rfl rfl (Nat.le_of_ble_eq_true rfl) ?_
  refine ru_if_ne (tgt := 32) dX12_noInstance_8 (by decide) (fun hc => ?_) (fun hc => ?_)
  · rw [if_neg hc] at h
    exact ru_pick [] rfl (tbb_X12_noInstance_32 hl0 hd    _ _ h)
  · rw [if_pos hc] at h
    refine ru_aload_n (i := 0) dX12_noInstance_11 rfl rfl <| ru_aload_n (i := 0) dX12_noInstance_12 rfl rfl <| ru_iload_n (i := 1) dX12_noInstance_13 rfl rfl <| ?_
    obtain ⟨_, hrc, h⟩ := Option.bind_eq_some_iff.mp h
    obtain ⟨q2, hq2, h⟩ := Option.bind_eq_some_iff.mp h
    refine ru_callV (tm_X12_runs hl0 (by omega) hq2) dX12_noInstance_14 rfl pm_X12_264 mf_X12_runs (ab_rcv_of hrc rfl) rfl rfl (Nat.le_of_ble_eq_true rfl) ?_
    refine ru_if_ne (tgt := 24) dX12_noInstance_17 (by decide) (fun hc => ?_) (fun hc => ?_)
    · rw [if_neg hc] at h
      refine ru_iconst dX12_noInstance_24 kc_i_0 <| ?_
      exact ru_pick [] rfl (tbb_X12_noInstance_25 hl0 hd   _ _ _ _ h)
    · rw [if_pos hc] at h
      refine ru_iconst dX12_noInstance_20 kc_i_1 <| ru_goto (tgt := 25) dX12_noInstance_21 (by decide) <| ?_
      exact ru_pick [] rfl (tbb_X12_noInstance_25 hl0 hd   _ _ _ _ h)
theorem tm_X12_noInstance {l : Launch} {g : ab_G} (hl0 : l.stackTraces = false) {d : Nat} (hd : 3 ≤ d) {l0 : Nat} {l1 : Int32} {m : ab_Mm} {z : (Int32 × ab_Mm)} (h : dd_X12_noInstance l0 l1 m = some z) : ab_Met l g yX12_noInstance cX12_noInstance 2 (some .boolean) [] d [.ref l0, .int l1] m (.inl (some (.int z.1))) z.2 := by
  obtain ⟨d2, rfl⟩ : ∃ d2, d = d2 + 1 := ⟨d - 1, by omega⟩
  exact ab_of hl0 (by decide +kernel) (Nat.le_of_ble_eq_true rfl) (fun q => by cases q) rfl (te_X12_noInstance hl0 hd _ _ _ _ h)
theorem te_X12_hostCount {l : Launch} {g : ab_G} (hl0 : l.stackTraces = false) {d2 : Nat} (hd : 1 ≤ d2 + 1)   (l0 : Nat) (m0 : ab_Mm) (z : (Int32 × ab_Mm)) (h : dd_X12_hostCount  l0 m0 = some z) : ab_W l g cX12_hostCount RX12 1 (some .int) [] false (d2 + 1) (.inl (some (.int z.1))) z.2 0 [(0, .ref l0)] [] m0 := by
  unfold dd_X12_hostCount at h
  refine ru_aload_n (i := 0) dX12_hostCount_0 rfl rfl <| ru_iconst dX12_hostCount_1 kc_i_0 <| ?_
  refine ru_putI h dX12_hostCount_2 lk_X12_83 ?_
  intro m1 h
  refine ru_aload_n (i := 0) dX12_hostCount_5 rfl rfl <| ?_
  refine ru_getR h dX12_hostCount_6 lk_X12_13 ?_
  intro v2 h
  refine ru_iconst dX12_hostCount_9 kc_i_0 <| ?_
  refine ru_iaload h dX12_hostCount_10 ?_
  intro v3 h
  cases h
  exact ru_ret (v := some (.int _)) ⟨_, rfl, rfl, dX12_hostCount_11⟩
theorem tm_X12_hostCount {l : Launch} {g : ab_G} (hl0 : l.stackTraces = false) {d : Nat} (hd : 1 ≤ d) {l0 : Nat} {m : ab_Mm} {z : (Int32 × ab_Mm)} (h : dd_X12_hostCount l0 m = some z) : ab_Met l g yX12_hostCount cX12_hostCount 1 (some .int) [] d [.ref l0] m (.inl (some (.int z.1))) z.2 := by
  obtain ⟨d2, rfl⟩ : ∃ d2, d = d2 + 1 := ⟨d - 1, by omega⟩
  exact ab_of hl0 (by decide +kernel) (Nat.le_of_ble_eq_true rfl) (fun q => by cases q) rfl (te_X12_hostCount hl0 hd _ _ _ h)
theorem te_X12_clock {l : Launch} {g : ab_G} (hl0 : l.stackTraces = false) {d2 : Nat} (hd : 1 ≤ d2 + 1)   (l0 : Nat) (m0 : ab_Mm) (z : (Int32 × ab_Mm)) (h : dd_X12_clock  l0 m0 = some z) : ab_W l g cX12_clock RX12 1 (some .int) [] false (d2 + 1) (.inl (some (.int z.1))) z.2 0 [(0, .ref l0)] [] m0 := by
  unfold dd_X12_clock at h
  refine ru_aload_n (i := 0) dX12_clock_0 rfl rfl <| ru_iconst dX12_clock_1 kc_i_0 <| ?_
  refine ru_putI h dX12_clock_2 lk_X12_83 ?_
  intro m1 h
  refine ru_aload_n (i := 0) dX12_clock_5 rfl rfl <| ?_
  refine ru_getR h dX12_clock_6 lk_X12_7 ?_
  intro v2 h
  refine ru_iconst dX12_clock_9 kc_i_0 <| ?_
  refine ru_laload h dX12_clock_10 ?_
  intro v3 h
  refine ru_l2i dX12_clock_11 <| ?_
  cases h
  exact ru_ret (v := some (.int _)) ⟨_, rfl, rfl, dX12_clock_12⟩
theorem tm_X12_clock {l : Launch} {g : ab_G} (hl0 : l.stackTraces = false) {d : Nat} (hd : 1 ≤ d) {l0 : Nat} {m : ab_Mm} {z : (Int32 × ab_Mm)} (h : dd_X12_clock l0 m = some z) : ab_Met l g yX12_clock cX12_clock 1 (some .int) [] d [.ref l0] m (.inl (some (.int z.1))) z.2 := by
  obtain ⟨d2, rfl⟩ : ∃ d2, d = d2 + 1 := ⟨d - 1, by omega⟩
  exact ab_of hl0 (by decide +kernel) (Nat.le_of_ble_eq_true rfl) (fun q => by cases q) rfl (te_X12_clock hl0 hd _ _ _ h)
theorem tbb_X12_free_26 {l : Launch} {g : ab_G} (hl0 : l.stackTraces = false) {d2 : Nat} (hd : 5 ≤ d2 + 1)   (s0 : Int32) (m0 : ab_Mm) (z : (Int32 × ab_Mm)) (h : bb_X12_free_26  s0 m0 = some z) : ab_W l g cX12_free RX12 3 (some .int) [] false (d2 + 1) (.inl (some (.int z.1))) z.2 26 [] [.int s0] m0 := by
  unfold bb_X12_free_26 at h
  cases h
  exact ru_ret (v := some (.int _)) ⟨_, rfl, rfl, dX12_free_26⟩
theorem tbb_X12_free_23 {l : Launch} {g : ab_G} (hl0 : l.stackTraces = false) {d2 : Nat} (hd : 5 ≤ d2 + 1)   (s0 : Nat) (s1 : Int32) (s2 : Int32) (m0 : ab_Mm) (z : (Int32 × ab_Mm)) (h : bb_X12_free_23  s0 s1 s2 m0 = some z) : ab_W l g cX12_free RX12 3 (some .int) [] false (d2 + 1) (.inl (some (.int z.1))) z.2 23 [] [.int s2, .int s1, .ref s0] m0 := by
  unfold bb_X12_free_23 at h
  obtain ⟨_, hrc, h⟩ := Option.bind_eq_some_iff.mp h
  obtain ⟨q1, hq1, h⟩ := Option.bind_eq_some_iff.mp h
  refine ru_callV (tm_X12_freeOf hl0 (by omega) hq1) dX12_free_23 rfl pm_X12_270 mf_X12_freeOf (ab_rcv_of hrc rfl) rfl rfl (Nat.le_of_ble_eq_true rfl) ?_
  exact ru_pick [] rfl (tbb_X12_free_26 hl0 hd   _ _ _ h)
theorem te_X12_free {l : Launch} {g : ab_G} (hl0 : l.stackTraces = false) {d2 : Nat} (hd : 5 ≤ d2 + 1)   (l0 : Nat) (l1 : Int32) (l2 : Int32) (m0 : ab_Mm) (z : (Int32 × ab_Mm)) (h : dd_X12_free  l0 l1 l2 m0 = some z) : ab_W l g cX12_free RX12 3 (some .int) [] false (d2 + 1) (.inl (some (.int z.1))) z.2 0 [(0, .ref l0), (1, .int l1), (2, .int l2)] [] m0 := by
  unfold dd_X12_free at h
  refine ru_aload_n (i := 0) dX12_free_0 rfl rfl <| ru_iload_n (i := 1) dX12_free_1 rfl rfl <| ?_
  obtain ⟨_, hrc, h⟩ := Option.bind_eq_some_iff.mp h
  obtain ⟨q1, hq1, h⟩ := Option.bind_eq_some_iff.mp h
  refine ru_callV (tm_X12_noHost hl0 (by omega) hq1) dX12_free_2 rfl pm_X12_289 mf_X12_noHost (ab_rcv_of hrc rfl) rfl rfl (Nat.le_of_ble_eq_true rfl) ?_
  refine ru_if_eq (tgt := 12) dX12_free_5 (by decide) (fun hc => ?_) (fun hc => ?_)
  · rw [if_pos hc] at h
    refine ru_aload_n (i := 0) dX12_free_12 rfl rfl <| ru_iload_n (i := 1) dX12_free_13 rfl rfl <| ru_iload_n (i := 2) dX12_free_14 rfl rfl <| ?_
    refine ru_if_eq (tgt := 22) dX12_free_15 (by decide) (fun hc => ?_) (fun hc => ?_)
    · rw [if_pos hc] at h
      refine ru_iconst dX12_free_22 kc_i_0 <| ?_
      exact ru_pick [] rfl (tbb_X12_free_23 hl0 hd   _ _ _ _ _ h)
    · rw [if_neg hc] at h
      refine ru_iconst dX12_free_18 kc_i_1 <| ru_goto (tgt := 23) dX12_free_19 (by decide) <| ?_
      exact ru_pick [] rfl (tbb_X12_free_23 hl0 hd   _ _ _ _ _ h)
  · rw [if_neg hc] at h
    refine ru_iconst dX12_free_8 kc_i_0 <| ru_goto (tgt := 26) dX12_free_9 (by decide) <| ?_
    exact ru_pick [] rfl (tbb_X12_free_26 hl0 hd   _ _ _ h)
