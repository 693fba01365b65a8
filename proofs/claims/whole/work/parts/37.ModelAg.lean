/-! ===== the methods keep to these functions (by program) ===== -/
theorem tbb_X12_addsHost_29 {l : Launch} {g : ab_G} (hl0 : l.stackTraces = false) {d2 : Nat} (hd : 1 ≤ d2 + 1)   : ∀ (n : Nat) (l0 : Nat) (l1 : Int32) (l2 : Int32) (l3 : Int32) (m0 : ab_Mm) (z : (Unit × ab_Mm)), bb_X12_addsHost_29  n l0 l1 l2 l3 m0 = some z → ab_W l g cX12_addsHost RX12 7 none [] false (d2 + 1) (.inl none) z.2 29 [(0, .ref l0), (1, .int l1), (2, .int l2), (3, .int l3)] [] m0 := by
  intro n
  induction n with
  | zero => intro l0 l1 l2 l3 m0 z h; cases h
  | succ n ih =>
    intro l0 l1 l2 l3 m0 z h
    rw [bb_X12_addsHost_29] at h
    refine ru_iload_n (i := 3) dX12_addsHost_29 rfl rfl <| ru_iconst dX12_addsHost_30 kc_i_1 <| ru_iload_n (i := 2) dX12_addsHost_31 rfl rfl <| ru_ishl dX12_addsHost_32 <| ?_
    refine ru_icmp_ge (tgt := 170) dX12_addsHost_33 (by decide) (fun hc => ?_) (fun hc => ?_)
    · rw [if_pos hc] at h
      cases h
      exact ru_ret (v := none) ⟨rfl, dX12_addsHost_170⟩
    · rw [if_neg hc] at h
      refine ru_aload_n (i := 0) dX12_addsHost_36 rfl rfl <| ?_
      refine ru_getR h dX12_addsHost_37 lk_X12_52 ?_
      intro v1 h
      refine ru_iload_n (i := 3) dX12_addsHost_40 rfl rfl <| ?_
      refine ru_iaload h dX12_addsHost_41 ?_
      intro v2 h
      refine ru_aload_n (i := 0) dX12_addsHost_42 rfl rfl <| ?_
      refine ru_getR h dX12_addsHost_43 lk_X12_17 ?_
      intro v3 h
      refine ru_iconst dX12_addsHost_46 kc_i_2 <| ru_iload_n (i := 1) dX12_addsHost_47 rfl rfl <| ru_imul dX12_addsHost_48 <| ?_
      refine ru_iaload h dX12_addsHost_49 ?_
      intro v4 h
      refine ru_icmp_gt (tgt := 164) dX12_addsHost_50 (by decide) (fun hc => ?_) (fun hc => ?_)
      · rw [if_pos hc] at h
        exact ru_pick [0, 1, 2, 3] rfl (tbb_X12_addsHost_164 hl0 hd _ ih _ _ _ _ _ _ h)
      · rw [if_neg hc] at h
        refine ru_aload_n (i := 0) dX12_addsHost_53 rfl rfl <| ?_
        refine ru_getR h dX12_addsHost_54 lk_X12_55 ?_
        intro v5 h
        refine ru_iload_n (i := 3) dX12_addsHost_57 rfl rfl <| ?_
        refine ru_iaload h dX12_addsHost_58 ?_
        intro v6 h
        refine ru_aload_n (i := 0) dX12_addsHost_59 rfl rfl <| ?_
        refine ru_getR h dX12_addsHost_60 lk_X12_17 ?_
        intro v7 h
        refine ru_iconst dX12_addsHost_63 kc_i_2 <| ru_iload_n (i := 1) dX12_addsHost_64 rfl rfl <| ru_imul dX12_addsHost_65 <| ru_iconst dX12_addsHost_66 kc_i_1 <| ru_iadd dX12_addsHost_67 <| ?_
        refine ru_iaload h dX12_addsHost_68 ?_
        intro v8 h
        refine ru_icmp_le (tgt := 75) dX12_addsHost_69 (by decide) (fun hc => ?_) (fun hc => ?_)
        · rw [if_pos hc] at h
          refine ru_iconst dX12_addsHost_75 kc_i_1 <| ru_iload_n (i := 2) dX12_addsHost_76 rfl rfl <| ru_ishl dX12_addsHost_77 <| ru_iconst dX12_addsHost_78 kc_i_1 <| ru_isub dX12_addsHost_79 <| ru_iload_n (i := 3) dX12_addsHost_80 rfl rfl <| ru_iconst dX12_addsHost_81 kc_i_m1 <| ru_ixor dX12_addsHost_82 <| ru_iand dX12_addsHost_83 <| ru_istore dX12_addsHost_84 (by decide) <| ?_
          refine ru_iload dX12_addsHost_86 rfl <| ru_istore dX12_addsHost_88 (by decide) <| ?_
          exact ru_pick [0, 1, 2, 3, 4, 5] rfl (tbb_X12_addsHost_90 hl0 hd _ ih _ _ _ _ _ _ _ _ _ h)
        · rw [if_neg hc] at h
          refine ru_goto (tgt := 164) dX12_addsHost_72 (by decide) <| ?_
          exact ru_pick [0, 1, 2, 3] rfl (tbb_X12_addsHost_164 hl0 hd _ ih _ _ _ _ _ _ h)
theorem tbb_X12_addsHost_2 {l : Launch} {g : ab_G} (hl0 : l.stackTraces = false) {d2 : Nat} (hd : 1 ≤ d2 + 1)   : ∀ (n : Nat) (l0 : Nat) (l1 : Int32) (l2 : Int32) (l3 : Int32) (m0 : ab_Mm) (z : (Unit × ab_Mm)), bb_X12_addsHost_2  n l0 l1 l2 l3 m0 = some z → ab_W l g cX12_addsHost RX12 7 none [] false (d2 + 1) (.inl none) z.2 2 [(0, .ref l0), (1, .int l1), (2, .int l2), (3, .int l3)] [] m0 := by
  intro n
  induction n with
  | zero => intro l0 l1 l2 l3 m0 z h; cases h
  | succ n ih =>
    intro l0 l1 l2 l3 m0 z h
    rw [bb_X12_addsHost_2] at h
    refine ru_iload_n (i := 3) dX12_addsHost_2 rfl rfl <| ru_iconst dX12_addsHost_3 kc_i_1 <| ru_iload_n (i := 2) dX12_addsHost_4 rfl rfl <| ru_ishl dX12_addsHost_5 <| ?_
    refine ru_icmp_ge (tgt := 27) dX12_addsHost_6 (by decide) (fun hc => ?_) (fun hc => ?_)
    · rw [if_pos hc] at h
      refine ru_iconst dX12_addsHost_27 kc_i_1 <| ru_istore_n (i := 3) dX12_addsHost_28 rfl (by decide) <| ?_
      exact ru_pick [0, 1, 2, 3] rfl (tbb_X12_addsHost_29 hl0 hd   _ _ _ _ _ _ _ h)
    · rw [if_neg hc] at h
      refine ru_aload_n (i := 0) dX12_addsHost_9 rfl rfl <| ?_
      refine ru_getR h dX12_addsHost_10 lk_X12_49 ?_
      intro v1 h
      refine ru_iload_n (i := 3) dX12_addsHost_13 rfl rfl <| ru_aload_n (i := 0) dX12_addsHost_14 rfl rfl <| ?_
      refine ru_getR h dX12_addsHost_15 lk_X12_46 ?_
      intro v2 h
      refine ru_iload_n (i := 3) dX12_addsHost_18 rfl rfl <| ?_
      refine ru_iaload h dX12_addsHost_19 ?_
      intro v3 h
      refine ru_iastore h dX12_addsHost_20 ?_
      intro m4 h
      refine ru_iinc dX12_addsHost_21 (by decide) rfl (ab_inc kc_i_1) <| ru_goto (tgt := 2) dX12_addsHost_24 (by decide) <| ?_
      exact ru_pick [0, 1, 2, 3] rfl (ih _ _ _ _ _ _ h)
theorem te_X12_addsHost {l : Launch} {g : ab_G} (hl0 : l.stackTraces = false) {d2 : Nat} (hd : 1 ≤ d2 + 1)   (l0 : Nat) (l1 : Int32) (l2 : Int32) (m0 : ab_Mm) (z : (Unit × ab_Mm)) (h : dd_X12_addsHost  l0 l1 l2 m0 = some z) : ab_W l g cX12_addsHost RX12 7 none [] false (d2 + 1) (.inl none) z.2 0 [(0, .ref l0), (1, .int l1), (2, .int l2)] [] m0 := by
  unfold dd_X12_addsHost at h
  refine ru_iconst dX12_addsHost_0 kc_i_0 <| ru_istore_n (i := 3) dX12_addsHost_1 rfl (by decide) <| ?_
  exact ru_pick [0, 1, 2, 3] rfl (tbb_X12_addsHost_2 hl0 hd   _ _ _ _ _ _ _ h)
theorem tm_X12_addsHost {l : Launch} {g : ab_G} (hl0 : l.stackTraces = false) {d : Nat} (hd : 1 ≤ d) {l0 : Nat} {l1 : Int32} {l2 : Int32} {m : ab_Mm} {z : (Unit × ab_Mm)} (h : dd_X12_addsHost l0 l1 l2 m = some z) : ab_Met l g yX12_addsHost cX12_addsHost 7 none [] d [.ref l0, .int l1, .int l2] m (.inl none) z.2 := by
  obtain ⟨d2, rfl⟩ : ∃ d2, d = d2 + 1 := ⟨d - 1, by omega⟩
  exact ab_of hl0 (by decide +kernel) (Nat.le_of_ble_eq_true rfl) (fun q => by cases q) rfl (te_X12_addsHost hl0 hd _ _ _ _ _ h)
theorem tbb_X12_fewestHosts_173 {l : Launch} {g : ab_G} (hl0 : l.stackTraces = false) {d2 : Nat} (hd : 3 ≤ d2 + 1)   : ∀ (n : Nat) (l0 : Nat) (l1 : Int32) (l2 : Int32) (m0 : ab_Mm) (z : (Int32 × ab_Mm)), bb_X12_fewestHosts_173  n l0 l1 l2 m0 = some z → ab_W l g cX12_fewestHosts RX12 4 (some .int) [] false (d2 + 1) (.inl (some (.int z.1))) z.2 173 [(0, .ref l0), (1, .int l1), (2, .int l2)] [] m0 := by
  intro n
  induction n with
  | zero => intro l0 l1 l2 m0 z h; cases h
  | succ n ih =>
    intro l0 l1 l2 m0 z h
    rw [bb_X12_fewestHosts_173] at h
    refine ru_iload_n (i := 2) dX12_fewestHosts_173 rfl rfl <| ru_aload_n (i := 0) dX12_fewestHosts_174 rfl rfl <| ?_
    refine ru_getR h dX12_fewestHosts_175 lk_X12_13 ?_
    intro v1 h
    refine ru_iconst dX12_fewestHosts_178 kc_i_0 <| ?_
    refine ru_iaload h dX12_fewestHosts_179 ?_
    intro v2 h
    refine ru_icmp_ge (tgt := 195) dX12_fewestHosts_180 (by decide) (fun hc => ?_) (fun hc => ?_)
    · rw [if_pos hc] at h
      refine ru_aload_n (i := 0) dX12_fewestHosts_195 rfl rfl <| ?_
      refine ru_getR h dX12_fewestHosts_196 lk_X12_46 ?_
      intro v3 h
      refine ru_iconst dX12_fewestHosts_199 kc_i_1 <| ru_iload_n (i := 1) dX12_fewestHosts_200 rfl rfl <| ru_ishl dX12_fewestHosts_201 <| ru_iconst dX12_fewestHosts_202 kc_i_1 <| ru_isub dX12_fewestHosts_203 <| ?_
      refine ru_iaload h dX12_fewestHosts_204 ?_
      intro v4 h
      cases h
      exact ru_ret (v := some (.int _)) ⟨_, rfl, rfl, dX12_fewestHosts_205⟩
    · rw [if_neg hc] at h
      refine ru_aload_n (i := 0) dX12_fewestHosts_183 rfl rfl <| ru_iload_n (i := 2) dX12_fewestHosts_184 rfl rfl <| ru_iload_n (i := 1) dX12_fewestHosts_185 rfl rfl <| ?_
      obtain ⟨_, hrc, h⟩ := Option.bind_eq_some_iff.mp h
      obtain ⟨q5, hq5, h⟩ := Option.bind_eq_some_iff.mp h
      refine ru_callV (tm_X12_addsHost hl0 (by omega) hq5) dX12_fewestHosts_186 rfl pm_X12_340 mf_X12_addsHost (ab_rcv_of hrc rfl) rfl rfl (Nat.le_of_ble_eq_true rfl) ?_
      refine ru_iinc dX12_fewestHosts_189 (by decide) rfl (ab_inc kc_i_1) <| ru_goto (tgt := 173) dX12_fewestHosts_192 (by decide) <| ?_
      exact ru_pick [0, 1, 2] rfl (ih _ _ _ _ _ h)
theorem tbb_X12_fewestHosts_150 {l : Launch} {g : ab_G} (hl0 : l.stackTraces = false) {d2 : Nat} (hd : 3 ≤ d2 + 1) (r127 : Nat → Int32 → Int32 → ab_Mm → Option (Int32 × ab_Mm)) (hr127 : ∀ (l0 : Nat) (l1 : Int32) (l2 : Int32) (m : ab_Mm) (z : (Int32 × ab_Mm)), r127 l0 l1 l2 m = some z → ab_W l g cX12_fewestHosts RX12 4 (some .int) [] false (d2 + 1) (.inl (some (.int z.1))) z.2 127 [(0, .ref l0), (1, .int l1), (2, .int l2)] [] m) (l0 : Nat) (l1 : Int32) (l2 : Int32) (s0 : Nat) (s1 : Int32) (s2 : Int32) (m0 : ab_Mm) (z : (Int32 × ab_Mm)) (h : bb_X12_fewestHosts_150 r127 l0 l1 l2 s0 s1 s2 m0 = some z) : ab_W l g cX12_fewestHosts RX12 4 (some .int) [] false (d2 + 1) (.inl (some (.int z.1))) z.2 150 [(0, .ref l0), (1, .int l1), (2, .int l2)] [.int s2, .int s1, .ref s0] m0 := by
  unfold bb_X12_fewestHosts_150 at h
  refine ru_iastore h dX12_fewestHosts_150 ?_
  intro m1 h
  refine ru_iinc dX12_fewestHosts_151 (by decide) rfl (ab_inc kc_i_1) <| ru_goto (tgt := 127) dX12_fewestHosts_154 (by decide) <| ?_
  exact ru_pick [0, 1, 2] rfl (hr127 _ _ _ _ _ h)
theorem tbb_X12_fewestHosts_127 {l : Launch} {g : ab_G} (hl0 : l.stackTraces = false) {d2 : Nat} (hd : 3 ≤ d2 + 1)   : ∀ (n : Nat) (l0 : Nat) (l1 : Int32) (l2 : Int32) (m0 : ab_Mm) (z : (Int32 × ab_Mm)), bb_X12_fewestHosts_127  n l0 l1 l2 m0 = some z → ab_W l g cX12_fewestHosts RX12 4 (some .int) [] false (d2 + 1) (.inl (some (.int z.1))) z.2 127 [(0, .ref l0), (1, .int l1), (2, .int l2)] [] m0 := by
  intro n
  induction n with
  | zero => intro l0 l1 l2 m0 z h; cases h
  | succ n ih =>
    intro l0 l1 l2 m0 z h
    rw [bb_X12_fewestHosts_127] at h
    refine ru_iload_n (i := 2) dX12_fewestHosts_127 rfl rfl <| ru_iconst dX12_fewestHosts_128 kc_i_1 <| ru_iload_n (i := 1) dX12_fewestHosts_129 rfl rfl <| ru_ishl dX12_fewestHosts_130 <| ?_
    refine ru_icmp_ge (tgt := 157) dX12_fewestHosts_131 (by decide) (fun hc => ?_) (fun hc => ?_)
    · rw [if_pos hc] at h
      refine ru_aload_n (i := 0) dX12_fewestHosts_157 rfl rfl <| ?_
      refine ru_getR h dX12_fewestHosts_158 lk_X12_52 ?_
      intro v1 h
      refine ru_iconst dX12_fewestHosts_161 kc_i_0 <| ru_iconst dX12_fewestHosts_162 kc_i_0 <| ?_
      refine ru_iastore h dX12_fewestHosts_163 ?_
      intro m2 h
      refine ru_aload_n (i := 0) dX12_fewestHosts_164 rfl rfl <| ?_
      refine ru_getR h dX12_fewestHosts_165 lk_X12_55 ?_
      intro v3 h
      refine ru_iconst dX12_fewestHosts_168 kc_i_0 <| ru_iconst dX12_fewestHosts_169 kc_i_0 <| ?_
      refine ru_iastore h dX12_fewestHosts_170 ?_
      intro m4 h
      refine ru_iconst dX12_fewestHosts_171 kc_i_0 <| ru_istore_n (i := 2) dX12_fewestHosts_172 rfl (by decide) <| ?_
      exact ru_pick [0, 1, 2] rfl (tbb_X12_fewestHosts_173 hl0 hd   _ _ _ _ _ _ h)
    · rw [if_neg hc] at h
      refine ru_aload_n (i := 0) dX12_fewestHosts_134 rfl rfl <| ?_
      refine ru_getR h dX12_fewestHosts_135 lk_X12_46 ?_
      intro v5 h
      refine ru_iload_n (i := 2) dX12_fewestHosts_138 rfl rfl <| ru_iload_n (i := 2) dX12_fewestHosts_139 rfl rfl <| ?_
      refine ru_if_ne (tgt := 147) dX12_fewestHosts_140 (by decide) (fun hc => ?_) (fun hc => ?_)
      · rw [if_neg hc] at h
        refine ru_sipush dX12_fewestHosts_147 kc_s_1000 <| ?_
        exact ru_pick [0, 1, 2] rfl (tbb_X12_fewestHosts_150 hl0 hd _ ih _ _ _ _ _ _ _ _ h)
      · rw [if_pos hc] at h
        refine ru_iconst dX12_fewestHosts_143 kc_i_0 <| ru_goto (tgt := 150) dX12_fewestHosts_144 (by decide) <| ?_
        exact ru_pick [0, 1, 2] rfl (tbb_X12_fewestHosts_150 hl0 hd _ ih _ _ _ _ _ _ _ _ h)
theorem tbb_X12_fewestHosts_119 {l : Launch} {g : ab_G} (hl0 : l.stackTraces = false) {d2 : Nat} (hd : 3 ≤ d2 + 1) (r9 : Nat → Int32 → Int32 → ab_Mm → Option (Int32 × ab_Mm)) (hr9 : ∀ (l0 : Nat) (l1 : Int32) (l2 : Int32) (m : ab_Mm) (z : (Int32 × ab_Mm)), r9 l0 l1 l2 m = some z → ab_W l g cX12_fewestHosts RX12 4 (some .int) [] false (d2 + 1) (.inl (some (.int z.1))) z.2 9 [(0, .ref l0), (1, .int l1), (2, .int l2)] [] m) (l0 : Nat) (l1 : Int32) (l2 : Int32) (m0 : ab_Mm) (z : (Int32 × ab_Mm)) (h : bb_X12_fewestHosts_119 r9 l0 l1 l2 m0 = some z) : ab_W l g cX12_fewestHosts RX12 4 (some .int) [] false (d2 + 1) (.inl (some (.int z.1))) z.2 119 [(0, .ref l0), (1, .int l1), (2, .int l2)] [] m0 := by
  unfold bb_X12_fewestHosts_119 at h
  refine ru_iinc dX12_fewestHosts_119 (by decide) rfl (ab_inc kc_i_1) <| ru_goto (tgt := 9) dX12_fewestHosts_122 (by decide) <| ?_
  exact ru_pick [0, 1, 2] rfl (hr9 _ _ _ _ _ h)
theorem tbb_X12_fewestHosts_93 {l : Launch} {g : ab_G} (hl0 : l.stackTraces = false) {d2 : Nat} (hd : 3 ≤ d2 + 1) (r9 : Nat → Int32 → Int32 → ab_Mm → Option (Int32 × ab_Mm)) (r25 : Nat → Int32 → Int32 → Int32 → ab_Mm → Option (Int32 × ab_Mm)) (hr9 : ∀ (l0 : Nat) (l1 : Int32) (l2 : Int32) (m : ab_Mm) (z : (Int32 × ab_Mm)), r9 l0 l1 l2 m = some z → ab_W l g cX12_fewestHosts RX12 4 (some .int) [] false (d2 + 1) (.inl (some (.int z.1))) z.2 9 [(0, .ref l0), (1, .int l1), (2, .int l2)] [] m) (hr25 : ∀ (l0 : Nat) (l1 : Int32) (l2 : Int32) (l3 : Int32) (m : ab_Mm) (z : (Int32 × ab_Mm)), r25 l0 l1 l2 l3 m = some z → ab_W l g cX12_fewestHosts RX12 4 (some .int) [] false (d2 + 1) (.inl (some (.int z.1))) z.2 25 [(0, .ref l0), (1, .int l1), (2, .int l2), (3, .int l3)] [] m) (l0 : Nat) (l1 : Int32) (l2 : Int32) (l3 : Int32) (s0 : Nat) (s1 : Int32) (s2 : Int32) (m0 : ab_Mm) (z : (Int32 × ab_Mm)) (h : bb_X12_fewestHosts_93 r9 r25 l0 l1 l2 l3 s0 s1 s2 m0 = some z) : ab_W l g cX12_fewestHosts RX12 4 (some .int) [] false (d2 + 1) (.inl (some (.int z.1))) z.2 93 [(0, .ref l0), (1, .int l1), (2, .int l2), (3, .int l3)] [.int s2, .int s1, .ref s0] m0 := by
  unfold bb_X12_fewestHosts_93 at h
  refine ru_aload_n (i := 0) dX12_fewestHosts_93 rfl rfl <| ?_
  refine ru_getR h dX12_fewestHosts_94 lk_X12_20 ?_
  intro v1 h
  refine ru_iconst dX12_fewestHosts_97 kc_i_3 <| ru_aload_n (i := 0) dX12_fewestHosts_98 rfl rfl <| ru_iload_n (i := 2) dX12_fewestHosts_99 rfl rfl <| ru_iconst dX12_fewestHosts_100 kc_i_1 <| ?_
  obtain ⟨_, hrc, h⟩ := Option.bind_eq_some_iff.mp h
  obtain ⟨q2, hq2, h⟩ := Option.bind_eq_some_iff.mp h
  refine ru_callV (tm_X12_its hl0 (by omega) hq2) dX12_fewestHosts_101 rfl pm_X12_242 mf_X12_its (ab_rcv_of hrc rfl) rfl rfl (Nat.le_of_ble_eq_true rfl) ?_
  refine ru_imul dX12_fewestHosts_104 <| ru_iconst dX12_fewestHosts_105 kc_i_1 <| ru_iadd dX12_fewestHosts_106 <| ?_
  refine ru_iaload h dX12_fewestHosts_107 ?_
  intro v3 h
  refine ru_iadd dX12_fewestHosts_108 <| ?_
  refine ru_iastore h dX12_fewestHosts_109 ?_
  intro m4 h
  refine ru_iinc dX12_fewestHosts_110 (by decide) rfl (ab_inc kc_i_1) <| ru_goto (tgt := 25) dX12_fewestHosts_113 (by decide) <| ?_
  exact ru_pick [0, 1, 2, 3] rfl (hr25 _ _ _ _ _ _ h)
theorem tbb_X12_fewestHosts_55 {l : Launch} {g : ab_G} (hl0 : l.stackTraces = false) {d2 : Nat} (hd : 3 ≤ d2 + 1) (r9 : Nat → Int32 → Int32 → ab_Mm → Option (Int32 × ab_Mm)) (r25 : Nat → Int32 → Int32 → Int32 → ab_Mm → Option (Int32 × ab_Mm)) (hr9 : ∀ (l0 : Nat) (l1 : Int32) (l2 : Int32) (m : ab_Mm) (z : (Int32 × ab_Mm)), r9 l0 l1 l2 m = some z → ab_W l g cX12_fewestHosts RX12 4 (some .int) [] false (d2 + 1) (.inl (some (.int z.1))) z.2 9 [(0, .ref l0), (1, .int l1), (2, .int l2)] [] m) (hr25 : ∀ (l0 : Nat) (l1 : Int32) (l2 : Int32) (l3 : Int32) (m : ab_Mm) (z : (Int32 × ab_Mm)), r25 l0 l1 l2 l3 m = some z → ab_W l g cX12_fewestHosts RX12 4 (some .int) [] false (d2 + 1) (.inl (some (.int z.1))) z.2 25 [(0, .ref l0), (1, .int l1), (2, .int l2), (3, .int l3)] [] m) (l0 : Nat) (l1 : Int32) (l2 : Int32) (l3 : Int32) (s0 : Nat) (s1 : Int32) (s2 : Int32) (m0 : ab_Mm) (z : (Int32 × ab_Mm)) (h : bb_X12_fewestHosts_55 r9 r25 l0 l1 l2 l3 s0 s1 s2 m0 = some z) : ab_W l g cX12_fewestHosts RX12 4 (some .int) [] false (d2 + 1) (.inl (some (.int z.1))) z.2 55 [(0, .ref l0), (1, .int l1), (2, .int l2), (3, .int l3)] [.int s2, .int s1, .ref s0] m0 := by
  unfold bb_X12_fewestHosts_55 at h
  refine ru_aload_n (i := 0) dX12_fewestHosts_55 rfl rfl <| ?_
  refine ru_getR h dX12_fewestHosts_56 lk_X12_20 ?_
  intro v1 h
  refine ru_iconst dX12_fewestHosts_59 kc_i_3 <| ru_aload_n (i := 0) dX12_fewestHosts_60 rfl rfl <| ru_iload_n (i := 2) dX12_fewestHosts_61 rfl rfl <| ru_iconst dX12_fewestHosts_62 kc_i_1 <| ?_
  obtain ⟨_, hrc, h⟩ := Option.bind_eq_some_iff.mp h
  obtain ⟨q2, hq2, h⟩ := Option.bind_eq_some_iff.mp h
  refine ru_callV (tm_X12_its hl0 (by omega) hq2) dX12_fewestHosts_63 rfl pm_X12_242 mf_X12_its (ab_rcv_of hrc rfl) rfl rfl (Nat.le_of_ble_eq_true rfl) ?_
  refine ru_imul dX12_fewestHosts_66 <| ?_
  refine ru_iaload h dX12_fewestHosts_67 ?_
  intro v3 h
  refine ru_iadd dX12_fewestHosts_68 <| ?_
  refine ru_iastore h dX12_fewestHosts_69 ?_
  intro m4 h
  refine ru_aload_n (i := 0) dX12_fewestHosts_70 rfl rfl <| ?_
  refine ru_getR h dX12_fewestHosts_71 lk_X12_55 ?_
  intro v5 h
  refine ru_iload_n (i := 3) dX12_fewestHosts_74 rfl rfl <| ru_iconst dX12_fewestHosts_75 kc_i_1 <| ru_iload_n (i := 1) dX12_fewestHosts_76 rfl rfl <| ru_ishl dX12_fewestHosts_77 <| ru_ior dX12_fewestHosts_78 <| ru_iload_n (i := 1) dX12_fewestHosts_79 rfl rfl <| ?_
  refine ru_if_ne (tgt := 87) dX12_fewestHosts_80 (by decide) (fun hc => ?_) (fun hc => ?_)
  · rw [if_neg hc] at h
    refine ru_aload_n (i := 0) dX12_fewestHosts_87 rfl rfl <| ?_
    refine ru_getR h dX12_fewestHosts_88 lk_X12_55 ?_
    intro v6 h
    refine ru_iload_n (i := 3) dX12_fewestHosts_91 rfl rfl <| ?_
    refine ru_iaload h dX12_fewestHosts_92 ?_
    intro v7 h
    exact ru_pick [0, 1, 2, 3] rfl (tbb_X12_fewestHosts_93 hl0 hd _ _ hr9 hr25 _ _ _ _ _ _ _ _ _ h)
  · rw [if_pos hc] at h
    refine ru_iconst dX12_fewestHosts_83 kc_i_0 <| ru_goto (tgt := 93) dX12_fewestHosts_84 (by decide) <| ?_
    exact ru_pick [0, 1, 2, 3] rfl (tbb_X12_fewestHosts_93 hl0 hd _ _ hr9 hr25 _ _ _ _ _ _ _ _ _ h)
theorem tbb_X12_fewestHosts_25 {l : Launch} {g : ab_G} (hl0 : l.stackTraces = false) {d2 : Nat} (hd : 3 ≤ d2 + 1) (r9 : Nat → Int32 → Int32 → ab_Mm → Option (Int32 × ab_Mm)) (hr9 : ∀ (l0 : Nat) (l1 : Int32) (l2 : Int32) (m : ab_Mm) (z : (Int32 × ab_Mm)), r9 l0 l1 l2 m = some z → ab_W l g cX12_fewestHosts RX12 4 (some .int) [] false (d2 + 1) (.inl (some (.int z.1))) z.2 9 [(0, .ref l0), (1, .int l1), (2, .int l2)] [] m) : ∀ (n : Nat) (l0 : Nat) (l1 : Int32) (l2 : Int32) (l3 : Int32) (m0 : ab_Mm) (z : (Int32 × ab_Mm)), bb_X12_fewestHosts_25 r9 n l0 l1 l2 l3 m0 = some z → ab_W l g cX12_fewestHosts RX12 4 (some .int) [] false (d2 + 1) (.inl (some (.int z.1))) z.2 25 [(0, .ref l0), (1, .int l1), (2, .int l2), (3, .int l3)] [] m0 := by
  intro n
  induction n with
  | zero => intro l0 l1 l2 l3 m0 z h; cases h
  | succ n ih =>
    intro l0 l1 l2 l3 m0 z h
    rw [bb_X12_fewestHosts_25] at h
    refine ru_iload_n (i := 3) dX12_fewestHosts_25 rfl rfl <| ru_iconst dX12_fewestHosts_26 kc_i_1 <| ru_iload_n (i := 1) dX12_fewestHosts_27 rfl rfl <| ru_ishl dX12_fewestHosts_28 <| ?_
    refine ru_icmp_ge (tgt := 116) dX12_fewestHosts_29 (by decide) (fun hc => ?_) (fun hc => ?_)
    · rw [if_pos hc] at h
      refine ru_iinc dX12_fewestHosts_116 (by decide) rfl (ab_inc kc_i_1) <| ?_
      exact ru_pick [0, 1, 2] rfl (tbb_X12_fewestHosts_119 hl0 hd _ hr9 _ _ _ _ _ h)
    · rw [if_neg hc] at h
      refine ru_aload_n (i := 0) dX12_fewestHosts_32 rfl rfl <| ?_
      refine ru_getR h dX12_fewestHosts_33 lk_X12_52 ?_
      intro v1 h
      refine ru_iload_n (i := 3) dX12_fewestHosts_36 rfl rfl <| ru_iconst dX12_fewestHosts_37 kc_i_1 <| ru_iload_n (i := 1) dX12_fewestHosts_38 rfl rfl <| ru_ishl dX12_fewestHosts_39 <| ru_ior dX12_fewestHosts_40 <| ru_iload_n (i := 1) dX12_fewestHosts_41 rfl rfl <| ?_
      refine ru_if_ne (tgt := 49) dX12_fewestHosts_42 (by decide) (fun hc => ?_) (fun hc => ?_)
      · rw [if_neg hc] at h
        refine ru_aload_n (i := 0) dX12_fewestHosts_49 rfl rfl <| ?_
        refine ru_getR h dX12_fewestHosts_50 lk_X12_52 ?_
        intro v2 h
        refine ru_iload_n (i := 3) dX12_fewestHosts_53 rfl rfl <| ?_
        refine ru_iaload h dX12_fewestHosts_54 ?_
        intro v3 h
        exact ru_pick [0, 1, 2, 3] rfl (tbb_X12_fewestHosts_55 hl0 hd _ _ hr9 ih _ _ _ _ _ _ _ _ _ h)
      · rw [if_pos hc] at h
        refine ru_iconst dX12_fewestHosts_45 kc_i_0 <| ru_goto (tgt := 55) dX12_fewestHosts_46 (by decide) <| ?_
        exact ru_pick [0, 1, 2, 3] rfl (tbb_X12_fewestHosts_55 hl0 hd _ _ hr9 ih _ _ _ _ _ _ _ _ _ h)
theorem tbb_X12_fewestHosts_9 {l : Launch} {g : ab_G} (hl0 : l.stackTraces = false) {d2 : Nat} (hd : 3 ≤ d2 + 1)   : ∀ (n : Nat) (l0 : Nat) (l1 : Int32) (l2 : Int32) (m0 : ab_Mm) (z : (Int32 × ab_Mm)), bb_X12_fewestHosts_9  n l0 l1 l2 m0 = some z → ab_W l g cX12_fewestHosts RX12 4 (some .int) [] false (d2 + 1) (.inl (some (.int z.1))) z.2 9 [(0, .ref l0), (1, .int l1), (2, .int l2)] [] m0 := by
  intro n
  induction n with
  | zero => intro l0 l1 l2 m0 z h; cases h
  | succ n ih =>
    intro l0 l1 l2 m0 z h
    rw [bb_X12_fewestHosts_9] at h
    refine ru_iload_n (i := 2) dX12_fewestHosts_9 rfl rfl <| ru_bipush dX12_fewestHosts_10 kc_b_12 <| ?_
    refine ru_icmp_ge (tgt := 125) dX12_fewestHosts_12 (by decide) (fun hc => ?_) (fun hc => ?_)
    · rw [if_pos hc] at h
      refine ru_iconst dX12_fewestHosts_125 kc_i_0 <| ru_istore_n (i := 2) dX12_fewestHosts_126 rfl (by decide) <| ?_
      exact ru_pick [0, 1, 2] rfl (tbb_X12_fewestHosts_127 hl0 hd   _ _ _ _ _ _ h)
    · rw [if_neg hc] at h
      refine ru_aload_n (i := 0) dX12_fewestHosts_15 rfl rfl <| ru_iload_n (i := 2) dX12_fewestHosts_16 rfl rfl <| ?_
      obtain ⟨_, hrc, h⟩ := Option.bind_eq_some_iff.mp h
      obtain ⟨q1, hq1, h⟩ := Option.bind_eq_some_iff.mp h
      refine ru_callV (tm_X12_runs hl0 (by omega) hq1) dX12_fewestHosts_17 rfl pm_X12_264 mf_X12_runs (ab_rcv_of hrc rfl) rfl rfl (Nat.le_of_ble_eq_true rfl) ?_
      refine ru_if_eq (tgt := 119) dX12_fewestHosts_20 (by decide) (fun hc => ?_) (fun hc => ?_)
      · rw [if_pos hc] at h
        exact ru_pick [0, 1, 2] rfl (tbb_X12_fewestHosts_119 hl0 hd _ ih _ _ _ _ _ h)
      · rw [if_neg hc] at h
        refine ru_iconst dX12_fewestHosts_23 kc_i_0 <| ru_istore_n (i := 3) dX12_fewestHosts_24 rfl (by decide) <| ?_
        exact ru_pick [0, 1, 2, 3] rfl (tbb_X12_fewestHosts_25 hl0 hd _ ih _ _ _ _ _ _ _ h)
theorem te_X12_fewestHosts {l : Launch} {g : ab_G} (hl0 : l.stackTraces = false) {d2 : Nat} (hd : 3 ≤ d2 + 1)   (l0 : Nat) (m0 : ab_Mm) (z : (Int32 × ab_Mm)) (h : dd_X12_fewestHosts  l0 m0 = some z) : ab_W l g cX12_fewestHosts RX12 4 (some .int) [] false (d2 + 1) (.inl (some (.int z.1))) z.2 0 [(0, .ref l0)] [] m0 := by
  unfold dd_X12_fewestHosts at h
  refine ru_aload_n (i := 0) dX12_fewestHosts_0 rfl rfl <| ru_iconst dX12_fewestHosts_1 kc_i_0 <| ?_
  refine ru_putI h dX12_fewestHosts_2 lk_X12_83 ?_
  intro m1 h
  refine ru_iconst dX12_fewestHosts_5 kc_i_0 <| ru_istore_n (i := 1) dX12_fewestHosts_6 rfl (by decide) <| ru_iconst dX12_fewestHosts_7 kc_i_0 <| ru_istore_n (i := 2) dX12_fewestHosts_8 rfl (by decide) <| ?_
  exact ru_pick [0, 1, 2] rfl (tbb_X12_fewestHosts_9 hl0 hd   _ _ _ _ _ _ h)
theorem tm_X12_fewestHosts {l : Launch} {g : ab_G} (hl0 : l.stackTraces = false) {d : Nat} (hd : 3 ≤ d) {l0 : Nat} {m : ab_Mm} {z : (Int32 × ab_Mm)} (h : dd_X12_fewestHosts l0 m = some z) : ab_Met l g yX12_fewestHosts cX12_fewestHosts 4 (some .int) [] d [.ref l0] m (.inl (some (.int z.1))) z.2 := by
  obtain ⟨d2, rfl⟩ : ∃ d2, d = d2 + 1 := ⟨d - 1, by omega⟩
  exact ab_of hl0 (by decide +kernel) (Nat.le_of_ble_eq_true rfl) (fun q => by cases q) rfl (te_X12_fewestHosts hl0 hd _ _ _ h)
theorem tbb_X12_bidsWithout_130 {l : Launch} {g : ab_G} (hl0 : l.stackTraces = false) {d2 : Nat} (hd : 5 ≤ d2 + 1)   (s0 : Int32) (m0 : ab_Mm) (z : (Int32 × ab_Mm)) (h : bb_X12_bidsWithout_130  s0 m0 = some z) : ab_W l g cX12_bidsWithout RX12 8 (some .int) [] false (d2 + 1) (.inl (some (.int z.1))) z.2 130 [] [.int s0] m0 := by
  unfold bb_X12_bidsWithout_130 at h
  cases h
  exact ru_ret (v := some (.int _)) ⟨_, rfl, rfl, dX12_bidsWithout_130⟩
theorem tbb_X12_bidsWithout_129 {l : Launch} {g : ab_G} (hl0 : l.stackTraces = false) {d2 : Nat} (hd : 5 ≤ d2 + 1)    (m0 : ab_Mm) (z : (Int32 × ab_Mm)) (h : bb_X12_bidsWithout_129   m0 = some z) : ab_W l g cX12_bidsWithout RX12 8 (some .int) [] false (d2 + 1) (.inl (some (.int z.1))) z.2 129 [] [] m0 := by
  unfold bb_X12_bidsWithout_129 at h
  refine ru_iconst dX12_bidsWithout_129 kc_i_m1 <| ?_
  exact ru_pick [] rfl (tbb_X12_bidsWithout_130 hl0 hd   _ _ _ h)
theorem tbb_X12_bidsWithout_90 {l : Launch} {g : ab_G} (hl0 : l.stackTraces = false) {d2 : Nat} (hd : 5 ≤ d2 + 1) (r22 : Nat → Int32 → Int32 → Int32 → Int32 → Int32 → Int32 → ab_Mm → Option (Int32 × ab_Mm)) (hr22 : ∀ (l0 : Nat) (l1 : Int32) (l3 : Int32) (l4 : Int32) (l5 : Int32) (l6 : Int32) (l7 : Int32) (m : ab_Mm) (z : (Int32 × ab_Mm)), r22 l0 l1 l3 l4 l5 l6 l7 m = some z → ab_W l g cX12_bidsWithout RX12 8 (some .int) [] false (d2 + 1) (.inl (some (.int z.1))) z.2 22 [(0, .ref l0), (1, .int l1), (3, .int l3), (4, .int l4), (5, .int l5), (6, .int l6), (7, .int l7)] [] m) (l0 : Nat) (l1 : Int32) (l3 : Int32) (l4 : Int32) (l5 : Int32) (l6 : Int32) (l7 : Int32) (m0 : ab_Mm) (z : (Int32 × ab_Mm)) (h : bb_X12_bidsWithout_90 r22 l0 l1 l3 l4 l5 l6 l7 m0 = some z) : ab_W l g cX12_bidsWithout RX12 8 (some .int) [] false (d2 + 1) (.inl (some (.int z.1))) z.2 90 [(0, .ref l0), (1, .int l1), (3, .int l3), (4, .int l4), (5, .int l5), (6, .int l6), (7, .int l7)] [] m0 := by
  unfold bb_X12_bidsWithout_90 at h
  refine ru_iinc dX12_bidsWithout_90 (by decide) rfl (ab_inc kc_i_1) <| ru_goto (tgt := 22) dX12_bidsWithout_93 (by decide) <| ?_
  exact ru_pick [0, 1, 3, 4, 5, 6, 7] rfl (hr22 _ _ _ _ _ _ _ _ _ h)
theorem tbb_X12_bidsWithout_22 {l : Launch} {g : ab_G} (hl0 : l.stackTraces = false) {d2 : Nat} (hd : 5 ≤ d2 + 1)   : ∀ (n : Nat) (l0 : Nat) (l1 : Int32) (l3 : Int32) (l4 : Int32) (l5 : Int32) (l6 : Int32) (l7 : Int32) (m0 : ab_Mm) (z : (Int32 × ab_Mm)), bb_X12_bidsWithout_22  n l0 l1 l3 l4 l5 l6 l7 m0 = some z → ab_W l g cX12_bidsWithout RX12 8 (some .int) [] false (d2 + 1) (.inl (some (.int z.1))) z.2 22 [(0, .ref l0), (1, .int l1), (3, .int l3), (4, .int l4), (5, .int l5), (6, .int l6), (7, .int l7)] [] m0 := by
  intro n
  induction n with
  | zero => intro l0 l1 l3 l4 l5 l6 l7 m0 z h; cases h
  | succ n ih =>
    intro l0 l1 l3 l4 l5 l6 l7 m0 z h
    rw [bb_X12_bidsWithout_22] at h
    refine ru_iload dX12_bidsWithout_22 rfl <| ru_bipush dX12_bidsWithout_24 kc_b_12 <| ?_
    refine ru_icmp_ge (tgt := 96) dX12_bidsWithout_26 (by decide) (fun hc => ?_) (fun hc => ?_)
    · rw [if_pos hc] at h
      refine ru_aload_n (i := 0) dX12_bidsWithout_96 rfl rfl <| ?_
      refine ru_getR h dX12_bidsWithout_97 lk_X12_20 ?_
      intro v1 h
      refine ru_iconst dX12_bidsWithout_100 kc_i_3 <| ru_iload_n (i := 3) dX12_bidsWithout_101 rfl rfl <| ru_imul dX12_bidsWithout_102 <| ?_
      refine ru_iaload h dX12_bidsWithout_103 ?_
      intro v2 h
      refine ru_iload dX12_bidsWithout_104 rfl <| ?_
      refine ru_icmp_gt (tgt := 129) dX12_bidsWithout_106 (by decide) (fun hc => ?_) (fun hc => ?_)
      · rw [if_pos hc] at h
        exact ru_pick [] rfl (tbb_X12_bidsWithout_129 hl0 hd    _ _ h)
      · rw [if_neg hc] at h
        refine ru_aload_n (i := 0) dX12_bidsWithout_109 rfl rfl <| ?_
        refine ru_getR h dX12_bidsWithout_110 lk_X12_20 ?_
        intro v3 h
        refine ru_iconst dX12_bidsWithout_113 kc_i_3 <| ru_iload_n (i := 3) dX12_bidsWithout_114 rfl rfl <| ru_imul dX12_bidsWithout_115 <| ru_iconst dX12_bidsWithout_116 kc_i_1 <| ru_iadd dX12_bidsWithout_117 <| ?_
        refine ru_iaload h dX12_bidsWithout_118 ?_
        intro v4 h
        refine ru_iload dX12_bidsWithout_119 rfl <| ?_
        refine ru_icmp_gt (tgt := 129) dX12_bidsWithout_121 (by decide) (fun hc => ?_) (fun hc => ?_)
        · rw [if_pos hc] at h
          exact ru_pick [] rfl (tbb_X12_bidsWithout_129 hl0 hd    _ _ h)
        · rw [if_neg hc] at h
          refine ru_iload dX12_bidsWithout_124 rfl <| ru_goto (tgt := 130) dX12_bidsWithout_126 (by decide) <| ?_
          exact ru_pick [] rfl (tbb_X12_bidsWithout_130 hl0 hd   _ _ _ h)
    · rw [if_neg hc] at h
      refine ru_iload_n (i := 1) dX12_bidsWithout_29 rfl rfl <| ru_iload dX12_bidsWithout_30 rfl <| ?_
      obtain ⟨q5, hq5, h⟩ := Option.bind_eq_some_iff.mp h
      refine ru_callS (tm_X12_has hl0 (by omega) hq5) dX12_bidsWithout_32 rfl pm_X12_159 mf_X12_has rfl rfl (Nat.le_of_ble_eq_true rfl) ?_
      refine ru_if_eq (tgt := 90) dX12_bidsWithout_35 (by decide) (fun hc => ?_) (fun hc => ?_)
      · rw [if_pos hc] at h
        exact ru_pick [0, 1, 3, 4, 5, 6, 7] rfl (tbb_X12_bidsWithout_90 hl0 hd _ ih _ _ _ _ _ _ _ _ _ h)
      · rw [if_neg hc] at h
        refine ru_iload dX12_bidsWithout_38 rfl <| ru_aload_n (i := 0) dX12_bidsWithout_40 rfl rfl <| ru_iload dX12_bidsWithout_41 rfl <| ru_iconst dX12_bidsWithout_43 kc_i_3 <| ?_
        obtain ⟨_, hrc, h⟩ := Option.bind_eq_some_iff.mp h
        obtain ⟨q6, hq6, h⟩ := Option.bind_eq_some_iff.mp h
        refine ru_callV (tm_X12_its hl0 (by omega) hq6) dX12_bidsWithout_44 rfl pm_X12_242 mf_X12_its (ab_rcv_of hrc rfl) rfl rfl (Nat.le_of_ble_eq_true rfl) ?_
        refine ru_iadd dX12_bidsWithout_47 <| ru_istore dX12_bidsWithout_48 (by decide) <| ru_iload dX12_bidsWithout_50 rfl <| ru_aload_n (i := 0) dX12_bidsWithout_52 rfl rfl <| ?_
        refine ru_getR h dX12_bidsWithout_53 lk_X12_20 ?_
        intro v7 h
        refine ru_iconst dX12_bidsWithout_56 kc_i_3 <| ru_aload_n (i := 0) dX12_bidsWithout_57 rfl rfl <| ru_iload dX12_bidsWithout_58 rfl <| ru_iconst dX12_bidsWithout_60 kc_i_1 <| ?_
        obtain ⟨_, hrc, h⟩ := Option.bind_eq_some_iff.mp h
        obtain ⟨q8, hq8, h⟩ := Option.bind_eq_some_iff.mp h
        refine ru_callV (tm_X12_its hl0 (by omega) hq8) dX12_bidsWithout_61 rfl pm_X12_242 mf_X12_its (ab_rcv_of hrc rfl) rfl rfl (Nat.le_of_ble_eq_true rfl) ?_
        refine ru_imul dX12_bidsWithout_64 <| ?_
        refine ru_iaload h dX12_bidsWithout_65 ?_
        intro v9 h
        refine ru_iadd dX12_bidsWithout_66 <| ru_istore dX12_bidsWithout_67 (by decide) <| ru_iload dX12_bidsWithout_69 rfl <| ru_aload_n (i := 0) dX12_bidsWithout_71 rfl rfl <| ?_
        refine ru_getR h dX12_bidsWithout_72 lk_X12_20 ?_
        intro v10 h
        refine ru_iconst dX12_bidsWithout_75 kc_i_3 <| ru_aload_n (i := 0) dX12_bidsWithout_76 rfl rfl <| ru_iload dX12_bidsWithout_77 rfl <| ru_iconst dX12_bidsWithout_79 kc_i_1 <| ?_
        obtain ⟨_, hrc, h⟩ := Option.bind_eq_some_iff.mp h
        obtain ⟨q11, hq11, h⟩ := Option.bind_eq_some_iff.mp h
        refine ru_callV (tm_X12_its hl0 (by omega) hq11) dX12_bidsWithout_80 rfl pm_X12_242 mf_X12_its (ab_rcv_of hrc rfl) rfl rfl (Nat.le_of_ble_eq_true rfl) ?_
        refine ru_imul dX12_bidsWithout_83 <| ru_iconst dX12_bidsWithout_84 kc_i_1 <| ru_iadd dX12_bidsWithout_85 <| ?_
        refine ru_iaload h dX12_bidsWithout_86 ?_
        intro v12 h
        refine ru_iadd dX12_bidsWithout_87 <| ru_istore dX12_bidsWithout_88 (by decide) <| ?_
        exact ru_pick [0, 1, 3, 4, 5, 6, 7] rfl (tbb_X12_bidsWithout_90 hl0 hd _ ih _ _ _ _ _ _ _ _ _ h)
theorem te_X12_bidsWithout {l : Launch} {g : ab_G} (hl0 : l.stackTraces = false) {d2 : Nat} (hd : 5 ≤ d2 + 1)   (l0 : Nat) (l1 : Int32) (l2 : Int32) (l3 : Int32) (m0 : ab_Mm) (z : (Int32 × ab_Mm)) (h : dd_X12_bidsWithout  l0 l1 l2 l3 m0 = some z) : ab_W l g cX12_bidsWithout RX12 8 (some .int) [] false (d2 + 1) (.inl (some (.int z.1))) z.2 0 [(0, .ref l0), (1, .int l1), (2, .int l2), (3, .int l3)] [] m0 := by
  unfold dd_X12_bidsWithout at h
  refine ru_aload_n (i := 0) dX12_bidsWithout_0 rfl rfl <| ru_iload_n (i := 2) dX12_bidsWithout_1 rfl rfl <| ru_iconst dX12_bidsWithout_2 kc_i_0 <| ?_
  obtain ⟨_, hrc, h⟩ := Option.bind_eq_some_iff.mp h
  obtain ⟨q1, hq1, h⟩ := Option.bind_eq_some_iff.mp h
  refine ru_callV (tm_X12_freeOf hl0 (by omega) hq1) dX12_bidsWithout_3 rfl pm_X12_270 mf_X12_freeOf (ab_rcv_of hrc rfl) rfl rfl (Nat.le_of_ble_eq_true rfl) ?_
  refine ru_istore dX12_bidsWithout_6 (by decide) <| ru_aload_n (i := 0) dX12_bidsWithout_8 rfl rfl <| ru_iload_n (i := 2) dX12_bidsWithout_9 rfl rfl <| ru_iconst dX12_bidsWithout_10 kc_i_1 <| ?_
  obtain ⟨_, hrc, h⟩ := Option.bind_eq_some_iff.mp h
  obtain ⟨q2, hq2, h⟩ := Option.bind_eq_some_iff.mp h
  refine ru_callV (tm_X12_freeOf hl0 (by omega) hq2) dX12_bidsWithout_11 rfl pm_X12_270 mf_X12_freeOf (ab_rcv_of hrc rfl) rfl rfl (Nat.le_of_ble_eq_true rfl) ?_
  refine ru_istore dX12_bidsWithout_14 (by decide) <| ru_iconst dX12_bidsWithout_16 kc_i_0 <| ru_istore dX12_bidsWithout_17 (by decide) <| ru_iconst dX12_bidsWithout_19 kc_i_0 <| ru_istore dX12_bidsWithout_20 (by decide) <| ?_
  exact ru_pick [0, 1, 3, 4, 5, 6, 7] rfl (tbb_X12_bidsWithout_22 hl0 hd   _ _ _ _ _ _ _ _ _ _ h)
theorem tm_X12_bidsWithout {l : Launch} {g : ab_G} (hl0 : l.stackTraces = false) {d : Nat} (hd : 5 ≤ d) {l0 : Nat} {l1 : Int32} {l2 : Int32} {l3 : Int32} {m : ab_Mm} {z : (Int32 × ab_Mm)} (h : dd_X12_bidsWithout l0 l1 l2 l3 m = some z) : ab_Met l g yX12_bidsWithout cX12_bidsWithout 8 (some .int) [] d [.ref l0, .int l1, .int l2, .int l3] m (.inl (some (.int z.1))) z.2 := by
  obtain ⟨d2, rfl⟩ : ∃ d2, d = d2 + 1 := ⟨d - 1, by omega⟩
  exact ab_of hl0 (by decide +kernel) (Nat.le_of_ble_eq_true rfl) (fun q => by cases q) rfl (te_X12_bidsWithout hl0 hd _ _ _ _ _ _ h)
theorem tbb_X12_cheapestEviction_153 {l : Launch} {g : ab_G} (hl0 : l.stackTraces = false) {d2 : Nat} (hd : 6 ≤ d2 + 1) (r77 : Nat → Int32 → Int32 → Int32 → Int32 → Int32 → Int32 → ab_Mm → Option (Int32 × ab_Mm)) (hr77 : ∀ (l0 : Nat) (l1 : Int32) (l2 : Int32) (l3 : Int32) (l4 : Int32) (l5 : Int32) (l6 : Int32) (m : ab_Mm) (z : (Int32 × ab_Mm)), r77 l0 l1 l2 l3 l4 l5 l6 m = some z → ab_W l g cX12_cheapestEviction RX12 8 (some .int) [] false (d2 + 1) (.inl (some (.int z.1))) z.2 77 [(0, .ref l0), (1, .int l1), (2, .int l2), (3, .int l3), (4, .int l4), (5, .int l5), (6, .int l6)] [] m) (l0 : Nat) (l1 : Int32) (l2 : Int32) (l3 : Int32) (l4 : Int32) (l5 : Int32) (l6 : Int32) (m0 : ab_Mm) (z : (Int32 × ab_Mm)) (h : bb_X12_cheapestEviction_153 r77 l0 l1 l2 l3 l4 l5 l6 m0 = some z) : ab_W l g cX12_cheapestEviction RX12 8 (some .int) [] false (d2 + 1) (.inl (some (.int z.1))) z.2 153 [(0, .ref l0), (1, .int l1), (2, .int l2), (3, .int l3), (4, .int l4), (5, .int l5), (6, .int l6)] [] m0 := by
  unfold bb_X12_cheapestEviction_153 at h
  refine ru_iinc dX12_cheapestEviction_153 (by decide) rfl (ab_inc kc_i_1) <| ru_goto (tgt := 77) dX12_cheapestEviction_156 (by decide) <| ?_
  exact ru_pick [0, 1, 2, 3, 4, 5, 6] rfl (hr77 _ _ _ _ _ _ _ _ _ h)
theorem tbb_X12_cheapestEviction_145 {l : Launch} {g : ab_G} (hl0 : l.stackTraces = false) {d2 : Nat} (hd : 6 ≤ d2 + 1) (r77 : Nat → Int32 → Int32 → Int32 → Int32 → Int32 → Int32 → ab_Mm → Option (Int32 × ab_Mm)) (hr77 : ∀ (l0 : Nat) (l1 : Int32) (l2 : Int32) (l3 : Int32) (l4 : Int32) (l5 : Int32) (l6 : Int32) (m : ab_Mm) (z : (Int32 × ab_Mm)), r77 l0 l1 l2 l3 l4 l5 l6 m = some z → ab_W l g cX12_cheapestEviction RX12 8 (some .int) [] false (d2 + 1) (.inl (some (.int z.1))) z.2 77 [(0, .ref l0), (1, .int l1), (2, .int l2), (3, .int l3), (4, .int l4), (5, .int l5), (6, .int l6)] [] m) (l0 : Nat) (l1 : Int32) (l2 : Int32) (l3 : Int32) (l6 : Int32) (l7 : Int32) (m0 : ab_Mm) (z : (Int32 × ab_Mm)) (h : bb_X12_cheapestEviction_145 r77 l0 l1 l2 l3 l6 l7 m0 = some z) : ab_W l g cX12_cheapestEviction RX12 8 (some .int) [] false (d2 + 1) (.inl (some (.int z.1))) z.2 145 [(0, .ref l0), (1, .int l1), (2, .int l2), (3, .int l3), (6, .int l6), (7, .int l7)] [] m0 := by
  unfold bb_X12_cheapestEviction_145 at h
  refine ru_iload dX12_cheapestEviction_145 rfl <| ru_istore dX12_cheapestEviction_147 (by decide) <| ru_iload dX12_cheapestEviction_149 rfl <| ru_istore dX12_cheapestEviction_151 (by decide) <| ?_
  exact ru_pick [0, 1, 2, 3, 4, 5, 6] rfl (tbb_X12_cheapestEviction_153 hl0 hd _ hr77 _ _ _ _ _ _ _ _ _ h)
theorem tbb_X12_cheapestEviction_104 {l : Launch} {g : ab_G} (hl0 : l.stackTraces = false) {d2 : Nat} (hd : 6 ≤ d2 + 1) (r77 : Nat → Int32 → Int32 → Int32 → Int32 → Int32 → Int32 → ab_Mm → Option (Int32 × ab_Mm)) (hr77 : ∀ (l0 : Nat) (l1 : Int32) (l2 : Int32) (l3 : Int32) (l4 : Int32) (l5 : Int32) (l6 : Int32) (m : ab_Mm) (z : (Int32 × ab_Mm)), r77 l0 l1 l2 l3 l4 l5 l6 m = some z → ab_W l g cX12_cheapestEviction RX12 8 (some .int) [] false (d2 + 1) (.inl (some (.int z.1))) z.2 77 [(0, .ref l0), (1, .int l1), (2, .int l2), (3, .int l3), (4, .int l4), (5, .int l5), (6, .int l6)] [] m) (l0 : Nat) (l1 : Int32) (l2 : Int32) (l3 : Int32) (l4 : Int32) (l5 : Int32) (l6 : Int32) (s0 : Int32) (m0 : ab_Mm) (z : (Int32 × ab_Mm)) (h : bb_X12_cheapestEviction_104 r77 l0 l1 l2 l3 l4 l5 l6 s0 m0 = some z) : ab_W l g cX12_cheapestEviction RX12 8 (some .int) [] false (d2 + 1) (.inl (some (.int z.1))) z.2 104 [(0, .ref l0), (1, .int l1), (2, .int l2), (3, .int l3), (4, .int l4), (5, .int l5), (6, .int l6)] [.int s0] m0 := by
  unfold bb_X12_cheapestEviction_104 at h
  refine ru_istore dX12_cheapestEviction_104 (by decide) <| ru_iload dX12_cheapestEviction_106 rfl <| ru_iconst dX12_cheapestEviction_108 kc_i_m1 <| ?_
  refine ru_icmp_eq (tgt := 153) dX12_cheapestEviction_109 (by decide) (fun hc => ?_) (fun hc => ?_)
  · rw [if_pos hc] at h
    exact ru_pick [0, 1, 2, 3, 4, 5, 6] rfl (tbb_X12_cheapestEviction_153 hl0 hd _ hr77 _ _ _ _ _ _ _ _ _ h)
  · rw [if_neg hc] at h
    refine ru_iload dX12_cheapestEviction_112 rfl <| ru_iconst dX12_cheapestEviction_114 kc_i_m1 <| ?_
    refine ru_icmp_eq (tgt := 145) dX12_cheapestEviction_115 (by decide) (fun hc => ?_) (fun hc => ?_)
    · rw [if_pos hc] at h
      exact ru_pick [0, 1, 2, 3, 6, 7] rfl (tbb_X12_cheapestEviction_145 hl0 hd _ hr77 _ _ _ _ _ _ _ _ h)
    · rw [if_neg hc] at h
      refine ru_iload dX12_cheapestEviction_118 rfl <| ru_iload dX12_cheapestEviction_120 rfl <| ?_
      refine ru_icmp_lt (tgt := 145) dX12_cheapestEviction_122 (by decide) (fun hc => ?_) (fun hc => ?_)
      · rw [if_pos hc] at h
        exact ru_pick [0, 1, 2, 3, 6, 7] rfl (tbb_X12_cheapestEviction_145 hl0 hd _ hr77 _ _ _ _ _ _ _ _ h)
      · rw [if_neg hc] at h
        refine ru_iload dX12_cheapestEviction_125 rfl <| ru_iload dX12_cheapestEviction_127 rfl <| ?_
        refine ru_icmp_ne (tgt := 153) dX12_cheapestEviction_129 (by decide) (fun hc => ?_) (fun hc => ?_)
        · rw [if_neg hc] at h
          exact ru_pick [0, 1, 2, 3, 4, 5, 6] rfl (tbb_X12_cheapestEviction_153 hl0 hd _ hr77 _ _ _ _ _ _ _ _ _ h)
        · rw [if_pos hc] at h
          refine ru_iload dX12_cheapestEviction_132 rfl <| ?_
          obtain ⟨q1, hq1, h⟩ := Option.bind_eq_some_iff.mp h
          refine ru_callS (tm_X12_bits hl0 (by omega) hq1) dX12_cheapestEviction_134 rfl pm_X12_347 mf_X12_bits rfl rfl (Nat.le_of_ble_eq_true rfl) ?_
          refine ru_iload dX12_cheapestEviction_137 rfl <| ?_
          obtain ⟨q2, hq2, h⟩ := Option.bind_eq_some_iff.mp h
          refine ru_callS (tm_X12_bits hl0 (by omega) hq2) dX12_cheapestEviction_139 rfl pm_X12_347 mf_X12_bits rfl rfl (Nat.le_of_ble_eq_true rfl) ?_
          refine ru_icmp_ge (tgt := 153) dX12_cheapestEviction_142 (by decide) (fun hc => ?_) (fun hc => ?_)
          · rw [if_pos hc] at h
            exact ru_pick [0, 1, 2, 3, 4, 5, 6] rfl (tbb_X12_cheapestEviction_153 hl0 hd _ hr77 _ _ _ _ _ _ _ _ _ h)
          · rw [if_neg hc] at h
            exact ru_pick [0, 1, 2, 3, 6, 7] rfl (tbb_X12_cheapestEviction_145 hl0 hd _ hr77 _ _ _ _ _ _ _ _ h)
theorem tbb_X12_cheapestEviction_77 {l : Launch} {g : ab_G} (hl0 : l.stackTraces = false) {d2 : Nat} (hd : 6 ≤ d2 + 1)   : ∀ (n : Nat) (l0 : Nat) (l1 : Int32) (l2 : Int32) (l3 : Int32) (l4 : Int32) (l5 : Int32) (l6 : Int32) (m0 : ab_Mm) (z : (Int32 × ab_Mm)), bb_X12_cheapestEviction_77  n l0 l1 l2 l3 l4 l5 l6 m0 = some z → ab_W l g cX12_cheapestEviction RX12 8 (some .int) [] false (d2 + 1) (.inl (some (.int z.1))) z.2 77 [(0, .ref l0), (1, .int l1), (2, .int l2), (3, .int l3), (4, .int l4), (5, .int l5), (6, .int l6)] [] m0 := by
  intro n
  induction n with
  | zero => intro l0 l1 l2 l3 l4 l5 l6 m0 z h; cases h
  | succ n ih =>
    intro l0 l1 l2 l3 l4 l5 l6 m0 z h
    rw [bb_X12_cheapestEviction_77] at h
    refine ru_iload dX12_cheapestEviction_77 rfl <| ru_iload_n (i := 3) dX12_cheapestEviction_79 rfl rfl <| ?_
    refine ru_icmp_gt (tgt := 159) dX12_cheapestEviction_80 (by decide) (fun hc => ?_) (fun hc => ?_)
    · rw [if_pos hc] at h
      refine ru_iload dX12_cheapestEviction_159 rfl <| ?_
      cases h
      exact ru_ret (v := some (.int _)) ⟨_, rfl, rfl, dX12_cheapestEviction_161⟩
    · rw [if_neg hc] at h
      refine ru_iload dX12_cheapestEviction_83 rfl <| ru_iload_n (i := 3) dX12_cheapestEviction_85 rfl rfl <| ru_iconst dX12_cheapestEviction_86 kc_i_m1 <| ru_ixor dX12_cheapestEviction_87 <| ru_iand dX12_cheapestEviction_88 <| ?_
      refine ru_if_ne (tgt := 103) dX12_cheapestEviction_89 (by decide) (fun hc => ?_) (fun hc => ?_)
      · rw [if_neg hc] at h
        refine ru_iconst dX12_cheapestEviction_103 kc_i_m1 <| ?_
        exact ru_pick [0, 1, 2, 3, 4, 5, 6] rfl (tbb_X12_cheapestEviction_104 hl0 hd _ ih _ _ _ _ _ _ _ _ _ _ h)
      · rw [if_pos hc] at h
        refine ru_aload_n (i := 0) dX12_cheapestEviction_92 rfl rfl <| ru_iload dX12_cheapestEviction_93 rfl <| ru_iload_n (i := 1) dX12_cheapestEviction_95 rfl rfl <| ru_iload_n (i := 2) dX12_cheapestEviction_96 rfl rfl <| ?_
        obtain ⟨_, hrc, h⟩ := Option.bind_eq_some_iff.mp h
        obtain ⟨q1, hq1, h⟩ := Option.bind_eq_some_iff.mp h
        refine ru_callV (tm_X12_bidsWithout hl0 (by omega) hq1) dX12_cheapestEviction_97 rfl pm_X12_344 mf_X12_bidsWithout (ab_rcv_of hrc rfl) rfl rfl (Nat.le_of_ble_eq_true rfl) ?_
        refine ru_goto (tgt := 104) dX12_cheapestEviction_100 (by decide) <| ?_
        exact ru_pick [0, 1, 2, 3, 4, 5, 6] rfl (tbb_X12_cheapestEviction_104 hl0 hd _ ih _ _ _ _ _ _ _ _ _ _ h)
theorem tbb_X12_cheapestEviction_60 {l : Launch} {g : ab_G} (hl0 : l.stackTraces = false) {d2 : Nat} (hd : 6 ≤ d2 + 1) (r23 : Nat → Int32 → Int32 → Int32 → Int32 → ab_Mm → Option (Int32 × ab_Mm)) (hr23 : ∀ (l0 : Nat) (l1 : Int32) (l2 : Int32) (l3 : Int32) (l4 : Int32) (m : ab_Mm) (z : (Int32 × ab_Mm)), r23 l0 l1 l2 l3 l4 m = some z → ab_W l g cX12_cheapestEviction RX12 8 (some .int) [] false (d2 + 1) (.inl (some (.int z.1))) z.2 23 [(0, .ref l0), (1, .int l1), (2, .int l2), (3, .int l3), (4, .int l4)] [] m) (l0 : Nat) (l1 : Int32) (l2 : Int32) (l4 : Int32) (s0 : Int32) (s1 : Int32) (m0 : ab_Mm) (z : (Int32 × ab_Mm)) (h : bb_X12_cheapestEviction_60 r23 l0 l1 l2 l4 s0 s1 m0 = some z) : ab_W l g cX12_cheapestEviction RX12 8 (some .int) [] false (d2 + 1) (.inl (some (.int z.1))) z.2 60 [(0, .ref l0), (1, .int l1), (2, .int l2), (4, .int l4)] [.int s1, .int s0] m0 := by
  unfold bb_X12_cheapestEviction_60 at h
  refine ru_ior dX12_cheapestEviction_60 <| ru_istore_n (i := 3) dX12_cheapestEviction_61 rfl (by decide) <| ru_iinc dX12_cheapestEviction_62 (by decide) rfl (ab_inc kc_i_1) <| ru_goto (tgt := 23) dX12_cheapestEviction_65 (by decide) <| ?_
  exact ru_pick [0, 1, 2, 3, 4] rfl (hr23 _ _ _ _ _ _ _ h)
theorem tbb_X12_cheapestEviction_59 {l : Launch} {g : ab_G} (hl0 : l.stackTraces = false) {d2 : Nat} (hd : 6 ≤ d2 + 1) (r23 : Nat → Int32 → Int32 → Int32 → Int32 → ab_Mm → Option (Int32 × ab_Mm)) (hr23 : ∀ (l0 : Nat) (l1 : Int32) (l2 : Int32) (l3 : Int32) (l4 : Int32) (m : ab_Mm) (z : (Int32 × ab_Mm)), r23 l0 l1 l2 l3 l4 m = some z → ab_W l g cX12_cheapestEviction RX12 8 (some .int) [] false (d2 + 1) (.inl (some (.int z.1))) z.2 23 [(0, .ref l0), (1, .int l1), (2, .int l2), (3, .int l3), (4, .int l4)] [] m) (l0 : Nat) (l1 : Int32) (l2 : Int32) (l4 : Int32) (s0 : Int32) (m0 : ab_Mm) (z : (Int32 × ab_Mm)) (h : bb_X12_cheapestEviction_59 r23 l0 l1 l2 l4 s0 m0 = some z) : ab_W l g cX12_cheapestEviction RX12 8 (some .int) [] false (d2 + 1) (.inl (some (.int z.1))) z.2 59 [(0, .ref l0), (1, .int l1), (2, .int l2), (4, .int l4)] [.int s0] m0 := by
  unfold bb_X12_cheapestEviction_59 at h
  refine ru_iconst dX12_cheapestEviction_59 kc_i_0 <| ?_
  exact ru_pick [0, 1, 2, 4] rfl (tbb_X12_cheapestEviction_60 hl0 hd _ hr23 _ _ _ _ _ _ _ _ h)
theorem tbb_X12_cheapestEviction_23 {l : Launch} {g : ab_G} (hl0 : l.stackTraces = false) {d2 : Nat} (hd : 6 ≤ d2 + 1)   : ∀ (n : Nat) (l0 : Nat) (l1 : Int32) (l2 : Int32) (l3 : Int32) (l4 : Int32) (m0 : ab_Mm) (z : (Int32 × ab_Mm)), bb_X12_cheapestEviction_23  n l0 l1 l2 l3 l4 m0 = some z → ab_W l g cX12_cheapestEviction RX12 8 (some .int) [] false (d2 + 1) (.inl (some (.int z.1))) z.2 23 [(0, .ref l0), (1, .int l1), (2, .int l2), (3, .int l3), (4, .int l4)] [] m0 := by
  intro n
  induction n with
  | zero => intro l0 l1 l2 l3 l4 m0 z h; cases h
  | succ n ih =>
    intro l0 l1 l2 l3 l4 m0 z h
    rw [bb_X12_cheapestEviction_23] at h
    refine ru_iload dX12_cheapestEviction_23 rfl <| ru_bipush dX12_cheapestEviction_25 kc_b_12 <| ?_
    refine ru_icmp_ge (tgt := 68) dX12_cheapestEviction_27 (by decide) (fun hc => ?_) (fun hc => ?_)
    · rw [if_pos hc] at h
      refine ru_iconst dX12_cheapestEviction_68 kc_i_m1 <| ru_istore dX12_cheapestEviction_69 (by decide) <| ru_iconst dX12_cheapestEviction_71 kc_i_0 <| ru_istore dX12_cheapestEviction_72 (by decide) <| ru_iconst dX12_cheapestEviction_74 kc_i_0 <| ru_istore dX12_cheapestEviction_75 (by decide) <| ?_
      exact ru_pick [0, 1, 2, 3, 4, 5, 6] rfl (tbb_X12_cheapestEviction_77 hl0 hd   _ _ _ _ _ _ _ _ _ _ h)
    · rw [if_neg hc] at h
      refine ru_iload_n (i := 3) dX12_cheapestEviction_30 rfl rfl <| ru_aload_n (i := 0) dX12_cheapestEviction_31 rfl rfl <| ru_iload dX12_cheapestEviction_32 rfl <| ru_iload_n (i := 1) dX12_cheapestEviction_34 rfl rfl <| ?_
      obtain ⟨_, hrc, h⟩ := Option.bind_eq_some_iff.mp h
      obtain ⟨q1, hq1, h⟩ := Option.bind_eq_some_iff.mp h
      refine ru_callV (tm_X12_isOn hl0 (by omega) hq1) dX12_cheapestEviction_35 rfl pm_X12_267 mf_X12_isOn (ab_rcv_of hrc rfl) rfl rfl (Nat.le_of_ble_eq_true rfl) ?_
      refine ru_if_eq (tgt := 59) dX12_cheapestEviction_38 (by decide) (fun hc => ?_) (fun hc => ?_)
      · rw [if_pos hc] at h
        exact ru_pick [0, 1, 2, 4] rfl (tbb_X12_cheapestEviction_59 hl0 hd _ ih _ _ _ _ _ _ _ h)
      · rw [if_neg hc] at h
        refine ru_aload_n (i := 0) dX12_cheapestEviction_41 rfl rfl <| ru_iload dX12_cheapestEviction_42 rfl <| ru_iconst dX12_cheapestEviction_44 kc_i_3 <| ?_
        obtain ⟨_, hrc, h⟩ := Option.bind_eq_some_iff.mp h
        obtain ⟨q2, hq2, h⟩ := Option.bind_eq_some_iff.mp h
        refine ru_callV (tm_X12_its hl0 (by omega) hq2) dX12_cheapestEviction_45 rfl pm_X12_242 mf_X12_its (ab_rcv_of hrc rfl) rfl rfl (Nat.le_of_ble_eq_true rfl) ?_
        refine ru_iconst dX12_cheapestEviction_48 kc_i_m1 <| ?_
        refine ru_icmp_eq (tgt := 59) dX12_cheapestEviction_49 (by decide) (fun hc => ?_) (fun hc => ?_)
        · rw [if_pos hc] at h
          exact ru_pick [0, 1, 2, 4] rfl (tbb_X12_cheapestEviction_59 hl0 hd _ ih _ _ _ _ _ _ _ h)
        · rw [if_neg hc] at h
          refine ru_iconst dX12_cheapestEviction_52 kc_i_1 <| ru_iload dX12_cheapestEviction_53 rfl <| ru_ishl dX12_cheapestEviction_55 <| ru_goto (tgt := 60) dX12_cheapestEviction_56 (by decide) <| ?_
          exact ru_pick [0, 1, 2, 4] rfl (tbb_X12_cheapestEviction_60 hl0 hd _ ih _ _ _ _ _ _ _ _ h)
theorem tbb_X12_cheapestEviction_16 {l : Launch} {g : ab_G} (hl0 : l.stackTraces = false) {d2 : Nat} (hd : 6 ≤ d2 + 1)    (m0 : ab_Mm) (z : (Int32 × ab_Mm)) (h : bb_X12_cheapestEviction_16   m0 = some z) : ab_W l g cX12_cheapestEviction RX12 8 (some .int) [] false (d2 + 1) (.inl (some (.int z.1))) z.2 16 [] [] m0 := by
  unfold bb_X12_cheapestEviction_16 at h
  refine ru_iconst dX12_cheapestEviction_16 kc_i_0 <| ?_
  cases h
  exact ru_ret (v := some (.int _)) ⟨_, rfl, rfl, dX12_cheapestEviction_17⟩
theorem te_X12_cheapestEviction {l : Launch} {g : ab_G} (hl0 : l.stackTraces = false) {d2 : Nat} (hd : 6 ≤ d2 + 1)   (l0 : Nat) (l1 : Int32) (l2 : Int32) (m0 : ab_Mm) (z : (Int32 × ab_Mm)) (h : dd_X12_cheapestEviction  l0 l1 l2 m0 = some z) : ab_W l g cX12_cheapestEviction RX12 8 (some .int) [] false (d2 + 1) (.inl (some (.int z.1))) z.2 0 [(0, .ref l0), (1, .int l1), (2, .int l2)] [] m0 := by
  unfold dd_X12_cheapestEviction at h
  refine ru_aload_n (i := 0) dX12_cheapestEviction_0 rfl rfl <| ru_iload_n (i := 1) dX12_cheapestEviction_1 rfl rfl <| ?_
  obtain ⟨_, hrc, h⟩ := Option.bind_eq_some_iff.mp h
  obtain ⟨q1, hq1, h⟩ := Option.bind_eq_some_iff.mp h
  refine ru_callV (tm_X12_noHost hl0 (by omega) hq1) dX12_cheapestEviction_2 rfl pm_X12_289 mf_X12_noHost (ab_rcv_of hrc rfl) rfl rfl (Nat.le_of_ble_eq_true rfl) ?_
  refine ru_if_ne (tgt := 16) dX12_cheapestEviction_5 (by decide) (fun hc => ?_) (fun hc => ?_)
  · rw [if_neg hc] at h
    exact ru_pick [] rfl (tbb_X12_cheapestEviction_16 hl0 hd    _ _ h)
  · rw [if_pos hc] at h
    refine ru_aload_n (i := 0) dX12_cheapestEviction_8 rfl rfl <| ru_iload_n (i := 2) dX12_cheapestEviction_9 rfl rfl <| ?_
    obtain ⟨_, hrc, h⟩ := Option.bind_eq_some_iff.mp h
    obtain ⟨q2, hq2, h⟩ := Option.bind_eq_some_iff.mp h
    refine ru_callV (tm_X12_noType hl0 (by omega) hq2) dX12_cheapestEviction_10 rfl pm_X12_295 mf_X12_noType (ab_rcv_of hrc rfl) rfl rfl (Nat.le_of_ble_eq_true rfl) ?_
    refine ru_if_eq (tgt := 18) dX12_cheapestEviction_13 (by decide) (fun hc => ?_) (fun hc => ?_)
    · rw [if_pos hc] at h
      refine ru_iconst dX12_cheapestEviction_18 kc_i_0 <| ru_istore_n (i := 3) dX12_cheapestEviction_19 rfl (by decide) <| ru_iconst dX12_cheapestEviction_20 kc_i_0 <| ru_istore dX12_cheapestEviction_21 (by decide) <| ?_
      exact ru_pick [0, 1, 2, 3, 4] rfl (tbb_X12_cheapestEviction_23 hl0 hd   _ _ _ _ _ _ _ _ h)
    · rw [if_neg hc] at h
      exact ru_pick [] rfl (tbb_X12_cheapestEviction_16 hl0 hd    _ _ h)
theorem tm_X12_cheapestEviction {l : Launch} {g : ab_G} (hl0 : l.stackTraces = false) {d : Nat} (hd : 6 ≤ d) {l0 : Nat} {l1 : Int32} {l2 : Int32} {m : ab_Mm} {z : (Int32 × ab_Mm)} (h : dd_X12_cheapestEviction l0 l1 l2 m = some z) : ab_Met l g yX12_cheapestEviction cX12_cheapestEviction 8 (some .int) [] d [.ref l0, .int l1, .int l2] m (.inl (some (.int z.1))) z.2 := by
  obtain ⟨d2, rfl⟩ : ∃ d2, d = d2 + 1 := ⟨d - 1, by omega⟩
  exact ab_of hl0 (by decide +kernel) (Nat.le_of_ble_eq_true rfl) (fun q => by cases q) rfl (te_X12_cheapestEviction hl0 hd _ _ _ _ _ h)
theorem tbb_X12_migrationCost_17 {l : Launch} {g : ab_G} (hl0 : l.stackTraces = false) {d2 : Nat} (hd : 4 ≤ d2 + 1)   (s0 : Int32) (m0 : ab_Mm) (z : (Int32 × ab_Mm)) (h : bb_X12_migrationCost_17  s0 m0 = some z) : ab_W l g cX12_migrationCost RX12 2 (some .int) [] false (d2 + 1) (.inl (some (.int z.1))) z.2 17 [] [.int s0] m0 := by
  unfold bb_X12_migrationCost_17 at h
  cases h
  exact ru_ret (v := some (.int _)) ⟨_, rfl, rfl, dX12_migrationCost_17⟩
theorem te_X12_migrationCost {l : Launch} {g : ab_G} (hl0 : l.stackTraces = false) {d2 : Nat} (hd : 4 ≤ d2 + 1)   (l0 : Nat) (l1 : Int32) (m0 : ab_Mm) (z : (Int32 × ab_Mm)) (h : dd_X12_migrationCost  l0 l1 m0 = some z) : ab_W l g cX12_migrationCost RX12 2 (some .int) [] false (d2 + 1) (.inl (some (.int z.1))) z.2 0 [(0, .ref l0), (1, .int l1)] [] m0 := by
  unfold dd_X12_migrationCost at h
  refine ru_aload_n (i := 0) dX12_migrationCost_0 rfl rfl <| ru_iload_n (i := 1) dX12_migrationCost_1 rfl rfl <| ?_
  obtain ⟨_, hrc, h⟩ := Option.bind_eq_some_iff.mp h
  obtain ⟨q1, hq1, h⟩ := Option.bind_eq_some_iff.mp h
  refine ru_callV (tm_X12_noInstance hl0 (by omega) hq1) dX12_migrationCost_2 rfl pm_X12_304 mf_X12_noInstance (ab_rcv_of hrc rfl) rfl rfl (Nat.le_of_ble_eq_true rfl) ?_
  refine ru_if_eq (tgt := 12) dX12_migrationCost_5 (by decide) (fun hc => ?_) (fun hc => ?_)
  · rw [if_pos hc] at h
    refine ru_aload_n (i := 0) dX12_migrationCost_12 rfl rfl <| ru_iload_n (i := 1) dX12_migrationCost_13 rfl rfl <| ?_
    obtain ⟨_, hrc, h⟩ := Option.bind_eq_some_iff.mp h
    obtain ⟨q2, hq2, h⟩ := Option.bind_eq_some_iff.mp h
    refine ru_callV (tm_X12_costOf hl0 (by omega) hq2) dX12_migrationCost_14 rfl pm_X12_350 mf_X12_costOf (ab_rcv_of hrc rfl) rfl rfl (Nat.le_of_ble_eq_true rfl) ?_
    exact ru_pick [] rfl (tbb_X12_migrationCost_17 hl0 hd   _ _ _ h)
  · rw [if_neg hc] at h
    refine ru_iconst dX12_migrationCost_8 kc_i_0 <| ru_goto (tgt := 17) dX12_migrationCost_9 (by decide) <| ?_
    exact ru_pick [] rfl (tbb_X12_migrationCost_17 hl0 hd   _ _ _ h)
theorem tm_X12_migrationCost {l : Launch} {g : ab_G} (hl0 : l.stackTraces = false) {d : Nat} (hd : 4 ≤ d) {l0 : Nat} {l1 : Int32} {m : ab_Mm} {z : (Int32 × ab_Mm)} (h : dd_X12_migrationCost l0 l1 m = some z) : ab_Met l g yX12_migrationCost cX12_migrationCost 2 (some .int) [] d [.ref l0, .int l1] m (.inl (some (.int z.1))) z.2 := by
  obtain ⟨d2, rfl⟩ : ∃ d2, d = d2 + 1 := ⟨d - 1, by omega⟩
  exact ab_of hl0 (by decide +kernel) (Nat.le_of_ble_eq_true rfl) (fun q => by cases q) rfl (te_X12_migrationCost hl0 hd _ _ _ _ h)
theorem tbb_X12_drains_116 {l : Launch} {g : ab_G} (hl0 : l.stackTraces = false) {d2 : Nat} (hd : 6 ≤ d2 + 1) (c_X12_drains : Nat → Int32 → Int32 → Int32 → ab_Mm → Option (Int32 × ab_Mm)) (r37 : Nat → Int32 → Int32 → Int32 → Int32 → Int32 → ab_Mm → Option (Int32 × ab_Mm)) (hc_X12_drains : ∀ (a0 : Nat) (a1 : Int32) (a2 : Int32) (a3 : Int32) (m : ab_Mm) (z : (Int32 × ab_Mm)), c_X12_drains a0 a1 a2 a3 m = some z → ab_Met l g yX12_drains cX12_drains 7 (some .boolean) [] d2 [.ref a0, .int a1, .int a2, .int a3] m (.inl (some (.int z.1))) z.2) (hr37 : ∀ (l0 : Nat) (l1 : Int32) (l2 : Int32) (l3 : Int32) (l4 : Int32) (l5 : Int32) (m : ab_Mm) (z : (Int32 × ab_Mm)), r37 l0 l1 l2 l3 l4 l5 m = some z → ab_W l g cX12_drains RX12 7 (some .boolean) [] false (d2 + 1) (.inl (some (.int z.1))) z.2 37 [(0, .ref l0), (1, .int l1), (2, .int l2), (3, .int l3), (4, .int l4), (5, .int l5)] [] m) (l0 : Nat) (l1 : Int32) (l2 : Int32) (l3 : Int32) (l4 : Int32) (l5 : Int32) (m0 : ab_Mm) (z : (Int32 × ab_Mm)) (h : bb_X12_drains_116 c_X12_drains r37 l0 l1 l2 l3 l4 l5 m0 = some z) : ab_W l g cX12_drains RX12 7 (some .boolean) [] false (d2 + 1) (.inl (some (.int z.1))) z.2 116 [(0, .ref l0), (1, .int l1), (2, .int l2), (3, .int l3), (4, .int l4), (5, .int l5)] [] m0 := by
  unfold bb_X12_drains_116 at h
  refine ru_iinc dX12_drains_116 (by decide) rfl (ab_inc kc_i_1) <| ru_goto (tgt := 37) dX12_drains_119 (by decide) <| ?_
  exact ru_pick [0, 1, 2, 3, 4, 5] rfl (hr37 _ _ _ _ _ _ _ _ h)
theorem tbb_X12_drains_37 {l : Launch} {g : ab_G} (hl0 : l.stackTraces = false) {d2 : Nat} (hd : 6 ≤ d2 + 1) (c_X12_drains : Nat → Int32 → Int32 → Int32 → ab_Mm → Option (Int32 × ab_Mm)) (hc_X12_drains : ∀ (a0 : Nat) (a1 : Int32) (a2 : Int32) (a3 : Int32) (m : ab_Mm) (z : (Int32 × ab_Mm)), c_X12_drains a0 a1 a2 a3 m = some z → ab_Met l g yX12_drains cX12_drains 7 (some .boolean) [] d2 [.ref a0, .int a1, .int a2, .int a3] m (.inl (some (.int z.1))) z.2) : ∀ (n : Nat) (l0 : Nat) (l1 : Int32) (l2 : Int32) (l3 : Int32) (l4 : Int32) (l5 : Int32) (m0 : ab_Mm) (z : (Int32 × ab_Mm)), bb_X12_drains_37 c_X12_drains n l0 l1 l2 l3 l4 l5 m0 = some z → ab_W l g cX12_drains RX12 7 (some .boolean) [] false (d2 + 1) (.inl (some (.int z.1))) z.2 37 [(0, .ref l0), (1, .int l1), (2, .int l2), (3, .int l3), (4, .int l4), (5, .int l5)] [] m0 := by
  intro n
  induction n with
  | zero => intro l0 l1 l2 l3 l4 l5 m0 z h; cases h
  | succ n ih =>
    intro l0 l1 l2 l3 l4 l5 m0 z h
    rw [bb_X12_drains_37] at h
    refine ru_iload dX12_drains_37 rfl <| ru_aload_n (i := 0) dX12_drains_39 rfl rfl <| ?_
    refine ru_getR h dX12_drains_40 lk_X12_13 ?_
    intro v1 h
    refine ru_iconst dX12_drains_43 kc_i_0 <| ?_
    refine ru_iaload h dX12_drains_44 ?_
    intro v2 h
    refine ru_icmp_ge (tgt := 122) dX12_drains_45 (by decide) (fun hc => ?_) (fun hc => ?_)
    · rw [if_pos hc] at h
      refine ru_iconst dX12_drains_122 kc_i_0 <| ?_
      cases h
      exact ru_ret (v := some (.int _)) ⟨_, rfl, ab_nz0, dX12_drains_123⟩
    · rw [if_neg hc] at h
      refine ru_iload dX12_drains_48 rfl <| ru_iload_n (i := 1) dX12_drains_50 rfl rfl <| ?_
      refine ru_icmp_eq (tgt := 116) dX12_drains_51 (by decide) (fun hc => ?_) (fun hc => ?_)
      · rw [if_pos hc] at h
        exact ru_pick [0, 1, 2, 3, 4, 5] rfl (tbb_X12_drains_116 hl0 hd _ _ hc_X12_drains ih _ _ _ _ _ _ _ _ h)
      · rw [if_neg hc] at h
        refine ru_aload_n (i := 0) dX12_drains_54 rfl rfl <| ru_iload dX12_drains_55 rfl <| ru_iload dX12_drains_57 rfl <| ?_
        obtain ⟨_, hrc, h⟩ := Option.bind_eq_some_iff.mp h
        obtain ⟨q3, hq3, h⟩ := Option.bind_eq_some_iff.mp h
        refine ru_callV (tm_X12_fits hl0 (by omega) hq3) dX12_drains_59 rfl pm_X12_276 mf_X12_fits (ab_rcv_of hrc rfl) rfl rfl (Nat.le_of_ble_eq_true rfl) ?_
        refine ru_if_eq (tgt := 116) dX12_drains_62 (by decide) (fun hc => ?_) (fun hc => ?_)
        · rw [if_pos hc] at h
          exact ru_pick [0, 1, 2, 3, 4, 5] rfl (tbb_X12_drains_116 hl0 hd _ _ hc_X12_drains ih _ _ _ _ _ _ _ _ h)
        · rw [if_neg hc] at h
          refine ru_aload_n (i := 0) dX12_drains_65 rfl rfl <| ?_
          refine ru_getR h dX12_drains_66 lk_X12_58 ?_
          intro v4 h
          refine ru_iload_n (i := 3) dX12_drains_69 rfl rfl <| ru_iload dX12_drains_70 rfl <| ?_
          refine ru_iastore h dX12_drains_72 ?_
          intro m5 h
          refine ru_aload_n (i := 0) dX12_drains_73 rfl rfl <| ?_
          refine ru_getR h dX12_drains_74 lk_X12_7 ?_
          intro v6 h
          refine ru_iload_n (i := 3) dX12_drains_77 rfl rfl <| ru_iconst dX12_drains_78 kc_i_2 <| ?_
          obtain ⟨q7, hq7, h⟩ := Option.bind_eq_some_iff.mp h
          refine ru_callS (tm_X12_of hl0 (by omega) hq7) dX12_drains_79 rfl pm_X12_238 mf_X12_of rfl rfl (Nat.le_of_ble_eq_true rfl) ?_
          refine ru_iload dX12_drains_82 rfl <| ru_i2l dX12_drains_84 <| ?_
          refine ru_lastore h dX12_drains_85 ?_
          intro m8 h
          refine ru_aload_n (i := 0) dX12_drains_86 rfl rfl <| ru_iload_n (i := 1) dX12_drains_87 rfl rfl <| ru_iload_n (i := 2) dX12_drains_88 rfl rfl <| ru_iload_n (i := 3) dX12_drains_89 rfl rfl <| ru_iconst dX12_drains_90 kc_i_1 <| ru_iadd dX12_drains_91 <| ?_
          obtain ⟨_, hrc, h⟩ := Option.bind_eq_some_iff.mp h
          obtain ⟨q9, hq9, h⟩ := Option.bind_eq_some_iff.mp h
          refine ru_callV (hc_X12_drains _ _ _ _ _ _ hq9) dX12_drains_92 rfl pm_X12_353 mf_X12_drains (ab_rcv_of hrc rfl) rfl rfl (Nat.le_of_ble_eq_true rfl) ?_
          refine ru_istore dX12_drains_95 (by decide) <| ru_aload_n (i := 0) dX12_drains_97 rfl rfl <| ?_
          refine ru_getR h dX12_drains_98 lk_X12_7 ?_
          intro v10 h
          refine ru_iload_n (i := 3) dX12_drains_101 rfl rfl <| ru_iconst dX12_drains_102 kc_i_2 <| ?_
          obtain ⟨q11, hq11, h⟩ := Option.bind_eq_some_iff.mp h
          refine ru_callS (tm_X12_of hl0 (by omega) hq11) dX12_drains_103 rfl pm_X12_238 mf_X12_of rfl rfl (Nat.le_of_ble_eq_true rfl) ?_
          refine ru_iload_n (i := 1) dX12_drains_106 rfl rfl <| ru_i2l dX12_drains_107 <| ?_
          refine ru_lastore h dX12_drains_108 ?_
          intro m12 h
          refine ru_iload dX12_drains_109 rfl <| ?_
          refine ru_if_eq (tgt := 116) dX12_drains_111 (by decide) (fun hc => ?_) (fun hc => ?_)
          · rw [if_pos hc] at h
            exact ru_pick [0, 1, 2, 3, 4, 5] rfl (tbb_X12_drains_116 hl0 hd _ _ hc_X12_drains ih _ _ _ _ _ _ _ _ h)
          · rw [if_neg hc] at h
            refine ru_iconst dX12_drains_114 kc_i_1 <| ?_
            cases h
            exact ru_ret (v := some (.int _)) ⟨_, rfl, ab_nz1, dX12_drains_115⟩
theorem te_X12_drains {l : Launch} {g : ab_G} (hl0 : l.stackTraces = false) {d2 : Nat} (hd : 6 ≤ d2 + 1) (c_X12_drains : Nat → Int32 → Int32 → Int32 → ab_Mm → Option (Int32 × ab_Mm)) (hc_X12_drains : ∀ (a0 : Nat) (a1 : Int32) (a2 : Int32) (a3 : Int32) (m : ab_Mm) (z : (Int32 × ab_Mm)), c_X12_drains a0 a1 a2 a3 m = some z → ab_Met l g yX12_drains cX12_drains 7 (some .boolean) [] d2 [.ref a0, .int a1, .int a2, .int a3] m (.inl (some (.int z.1))) z.2) (l0 : Nat) (l1 : Int32) (l2 : Int32) (l3 : Int32) (m0 : ab_Mm) (z : (Int32 × ab_Mm)) (h : st_X12_drains c_X12_drains l0 l1 l2 l3 m0 = some z) : ab_W l g cX12_drains RX12 7 (some .boolean) [] false (d2 + 1) (.inl (some (.int z.1))) z.2 0 [(0, .ref l0), (1, .int l1), (2, .int l2), (3, .int l3)] [] m0 := by
  unfold st_X12_drains at h
  refine ru_iload_n (i := 3) dX12_drains_0 rfl rfl <| ru_bipush dX12_drains_1 kc_b_12 <| ?_
  refine ru_icmp_ne (tgt := 8) dX12_drains_3 (by decide) (fun hc => ?_) (fun hc => ?_)
  · rw [if_neg hc] at h
    refine ru_iload_n (i := 2) dX12_drains_8 rfl rfl <| ru_iload_n (i := 3) dX12_drains_9 rfl rfl <| ?_
    obtain ⟨q1, hq1, h⟩ := Option.bind_eq_some_iff.mp h
    refine ru_callS (tm_X12_has hl0 (by omega) hq1) dX12_drains_10 rfl pm_X12_159 mf_X12_has rfl rfl (Nat.le_of_ble_eq_true rfl) ?_
    refine ru_if_ne (tgt := 26) dX12_drains_13 (by decide) (fun hc => ?_) (fun hc => ?_)
    · rw [if_neg hc] at h
      refine ru_aload_n (i := 0) dX12_drains_26 rfl rfl <| ru_iload_n (i := 3) dX12_drains_27 rfl rfl <| ru_iconst dX12_drains_28 kc_i_1 <| ?_
      obtain ⟨_, hrc, h⟩ := Option.bind_eq_some_iff.mp h
      obtain ⟨q2, hq2, h⟩ := Option.bind_eq_some_iff.mp h
      refine ru_callV (tm_X12_its hl0 (by omega) hq2) dX12_drains_29 rfl pm_X12_242 mf_X12_its (ab_rcv_of hrc rfl) rfl rfl (Nat.le_of_ble_eq_true rfl) ?_
      refine ru_istore dX12_drains_32 (by decide) <| ru_iconst dX12_drains_34 kc_i_0 <| ru_istore dX12_drains_35 (by decide) <| ?_
      exact ru_pick [0, 1, 2, 3, 4, 5] rfl (tbb_X12_drains_37 hl0 hd _ hc_X12_drains _ _ _ _ _ _ _ _ _ h)
    · rw [if_pos hc] at h
      refine ru_aload_n (i := 0) dX12_drains_16 rfl rfl <| ru_iload_n (i := 1) dX12_drains_17 rfl rfl <| ru_iload_n (i := 2) dX12_drains_18 rfl rfl <| ru_iload_n (i := 3) dX12_drains_19 rfl rfl <| ru_iconst dX12_drains_20 kc_i_1 <| ru_iadd dX12_drains_21 <| ?_
      obtain ⟨_, hrc, h⟩ := Option.bind_eq_some_iff.mp h
      obtain ⟨q3, hq3, h⟩ := Option.bind_eq_some_iff.mp h
      refine ru_callV (hc_X12_drains _ _ _ _ _ _ hq3) dX12_drains_22 rfl pm_X12_353 mf_X12_drains (ab_rcv_of hrc rfl) rfl rfl (Nat.le_of_ble_eq_true rfl) ?_
      rcases ab_iff h with ⟨hc, h⟩ | ⟨hc, h⟩
      · cases h
      cases h
      exact ru_ret (v := some (.int _)) ⟨_, rfl, congrArg Value.int (Classical.not_not.mp hc), dX12_drains_25⟩
  · rw [if_pos hc] at h
    refine ru_iconst dX12_drains_6 kc_i_1 <| ?_
    cases h
    exact ru_ret (v := some (.int _)) ⟨_, rfl, ab_nz1, dX12_drains_7⟩
