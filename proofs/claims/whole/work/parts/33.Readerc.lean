/-! ===== the methods keep to these functions (by program) ===== -/
theorem tm_X7_statement {l : Launch} {g : ab_G} (hl0 : l.stackTraces = false) {d : Nat} (hd : 38 ≤ d) {l0 : Nat} {m : ab_Mm} {z : (Int32 × ab_Mm)} (h : dd_X7_statement l0 m = some z) : ab_Met l g yX7_statement cX7_statement 1 (some .boolean) [] d [.ref l0] m (.inl (some (.int z.1))) z.2 := by
  obtain ⟨d2, rfl⟩ : ∃ d2, d = d2 + 1 := ⟨d - 1, by omega⟩
  exact ab_of hl0 (by decide +kernel) (Nat.le_of_ble_eq_true rfl) (fun q => by cases q) rfl (te_X7_statement hl0 hd _ _ _ h)
theorem tbb_X7_read_153 {l : Launch} {g : ab_G} (hl0 : l.stackTraces = false) {d2 : Nat} (hd : 39 ≤ d2 + 1)   (l0 : Nat) (m0 : ab_Mm) (z : (Int32 × ab_Mm)) (h : bb_X7_read_153  l0 m0 = some z) : ab_W l g cX7_read RX7 4 (some .int) [] false (d2 + 1) (.inl (some (.int z.1))) z.2 153 [(0, .ref l0)] [] m0 := by
  unfold bb_X7_read_153 at h
  refine ru_aload_n (i := 0) dX7_read_153 rfl rfl <| ?_
  refine ru_getI h dX7_read_154 lk_X7_32 ?_
  intro v1 h
  cases h
  exact ru_ret (v := some (.int _)) ⟨_, rfl, rfl, dX7_read_157⟩
theorem tbb_X7_read_146 {l : Launch} {g : ab_G} (hl0 : l.stackTraces = false) {d2 : Nat} (hd : 39 ≤ d2 + 1) (r107 : Nat → Int32 → Int32 → ab_Mm → Option (Int32 × ab_Mm)) (hr107 : ∀ (l0 : Nat) (l2 : Int32) (l3 : Int32) (m : ab_Mm) (z : (Int32 × ab_Mm)), r107 l0 l2 l3 m = some z → ab_W l g cX7_read RX7 4 (some .int) [] false (d2 + 1) (.inl (some (.int z.1))) z.2 107 [(0, .ref l0), (2, .int l2), (3, .int l3)] [] m) (l0 : Nat) (l3 : Int32) (s0 : Int32) (m0 : ab_Mm) (z : (Int32 × ab_Mm)) (h : bb_X7_read_146 r107 l0 l3 s0 m0 = some z) : ab_W l g cX7_read RX7 4 (some .int) [] false (d2 + 1) (.inl (some (.int z.1))) z.2 146 [(0, .ref l0), (3, .int l3)] [.int s0] m0 := by
  unfold bb_X7_read_146 at h
  refine ru_istore_n (i := 2) dX7_read_146 rfl (by decide) <| ru_iinc dX7_read_147 (by decide) rfl (ab_inc kc_i_1) <| ru_goto (tgt := 107) dX7_read_150 (by decide) <| ?_
  exact ru_pick [0, 2, 3] rfl (hr107 _ _ _ _ _ h)
theorem tbb_X7_read_145 {l : Launch} {g : ab_G} (hl0 : l.stackTraces = false) {d2 : Nat} (hd : 39 ≤ d2 + 1) (r107 : Nat → Int32 → Int32 → ab_Mm → Option (Int32 × ab_Mm)) (hr107 : ∀ (l0 : Nat) (l2 : Int32) (l3 : Int32) (m : ab_Mm) (z : (Int32 × ab_Mm)), r107 l0 l2 l3 m = some z → ab_W l g cX7_read RX7 4 (some .int) [] false (d2 + 1) (.inl (some (.int z.1))) z.2 107 [(0, .ref l0), (2, .int l2), (3, .int l3)] [] m) (l0 : Nat) (l3 : Int32) (m0 : ab_Mm) (z : (Int32 × ab_Mm)) (h : bb_X7_read_145 r107 l0 l3 m0 = some z) : ab_W l g cX7_read RX7 4 (some .int) [] false (d2 + 1) (.inl (some (.int z.1))) z.2 145 [(0, .ref l0), (3, .int l3)] [] m0 := by
  unfold bb_X7_read_145 at h
  refine ru_iconst dX7_read_145 kc_i_0 <| ?_
  exact ru_pick [0, 3] rfl (tbb_X7_read_146 hl0 hd _ hr107 _ _ _ _ _ h)
theorem tbb_X7_read_107 {l : Launch} {g : ab_G} (hl0 : l.stackTraces = false) {d2 : Nat} (hd : 39 ≤ d2 + 1)   : ∀ (n : Nat) (l0 : Nat) (l2 : Int32) (l3 : Int32) (m0 : ab_Mm) (z : (Int32 × ab_Mm)), bb_X7_read_107  n l0 l2 l3 m0 = some z → ab_W l g cX7_read RX7 4 (some .int) [] false (d2 + 1) (.inl (some (.int z.1))) z.2 107 [(0, .ref l0), (2, .int l2), (3, .int l3)] [] m0 := by
  intro n
  induction n with
  | zero => intro l0 l2 l3 m0 z h; cases h
  | succ n ih =>
    intro l0 l2 l3 m0 z h
    rw [bb_X7_read_107] at h
    refine ru_iload_n (i := 3) dX7_read_107 rfl rfl <| ru_sipush dX7_read_108 kc_s_800 <| ?_
    refine ru_icmp_gt (tgt := 153) dX7_read_111 (by decide) (fun hc => ?_) (fun hc => ?_)
    · rw [if_pos hc] at h
      exact ru_pick [0] rfl (tbb_X7_read_153 hl0 hd   _ _ _ h)
    · rw [if_neg hc] at h
      refine ru_iload_n (i := 2) dX7_read_114 rfl rfl <| ?_
      refine ru_if_eq (tgt := 153) dX7_read_115 (by decide) (fun hc => ?_) (fun hc => ?_)
      · rw [if_pos hc] at h
        exact ru_pick [0] rfl (tbb_X7_read_153 hl0 hd   _ _ _ h)
      · rw [if_neg hc] at h
        refine ru_aload_n (i := 0) dX7_read_118 rfl rfl <| ?_
        refine ru_getI h dX7_read_119 lk_X7_44 ?_
        intro v1 h
        refine ru_if_eq (tgt := 153) dX7_read_122 (by decide) (fun hc => ?_) (fun hc => ?_)
        · rw [if_pos hc] at h
          exact ru_pick [0] rfl (tbb_X7_read_153 hl0 hd   _ _ _ h)
        · rw [if_neg hc] at h
          refine ru_aload_n (i := 0) dX7_read_125 rfl rfl <| ?_
          obtain ⟨_, hrc, h⟩ := Option.bind_eq_some_iff.mp h
          obtain ⟨q2, hq2, h⟩ := Option.bind_eq_some_iff.mp h
          refine ru_callV (tm_X7_statement hl0 (by omega) hq2) dX7_read_126 rfl pm_X7_69 mf_X7_statement (ab_rcv_of hrc rfl) rfl rfl (Nat.le_of_ble_eq_true rfl) ?_
          refine ru_if_eq (tgt := 145) dX7_read_129 (by decide) (fun hc => ?_) (fun hc => ?_)
          · rw [if_pos hc] at h
            exact ru_pick [0, 3] rfl (tbb_X7_read_145 hl0 hd _ ih _ _ _ _ h)
          · rw [if_neg hc] at h
            refine ru_aload_n (i := 0) dX7_read_132 rfl rfl <| ru_bipush dX7_read_133 kc_b_59 <| ?_
            obtain ⟨_, hrc, h⟩ := Option.bind_eq_some_iff.mp h
            obtain ⟨q3, hq3, h⟩ := Option.bind_eq_some_iff.mp h
            refine ru_callV (tm_X7_takes hl0 (by omega) hq3) dX7_read_135 rfl pm_X7_73 mf_X7_takes (ab_rcv_of hrc rfl) rfl rfl (Nat.le_of_ble_eq_true rfl) ?_
            refine ru_if_eq (tgt := 145) dX7_read_138 (by decide) (fun hc => ?_) (fun hc => ?_)
            · rw [if_pos hc] at h
              exact ru_pick [0, 3] rfl (tbb_X7_read_145 hl0 hd _ ih _ _ _ _ h)
            · rw [if_neg hc] at h
              refine ru_iconst dX7_read_141 kc_i_1 <| ru_goto (tgt := 146) dX7_read_142 (by decide) <| ?_
              exact ru_pick [0, 3] rfl (tbb_X7_read_146 hl0 hd _ ih _ _ _ _ _ h)
theorem tbb_X7_read_99 {l : Launch} {g : ab_G} (hl0 : l.stackTraces = false) {d2 : Nat} (hd : 39 ≤ d2 + 1)   (l0 : Nat) (m0 : ab_Mm) (z : (Int32 × ab_Mm)) (h : bb_X7_read_99  l0 m0 = some z) : ab_W l g cX7_read RX7 4 (some .int) [] false (d2 + 1) (.inl (some (.int z.1))) z.2 99 [(0, .ref l0)] [] m0 := by
  unfold bb_X7_read_99 at h
  refine ru_aload_n (i := 0) dX7_read_99 rfl rfl <| ?_
  obtain ⟨_, hrc, h⟩ := Option.bind_eq_some_iff.mp h
  obtain ⟨q1, hq1, h⟩ := Option.bind_eq_some_iff.mp h
  refine ru_callV (tm_X7_advance hl0 (by omega) hq1) dX7_read_100 rfl pm_X7_66 mf_X7_advance (ab_rcv_of hrc rfl) rfl rfl (Nat.le_of_ble_eq_true rfl) ?_
  refine ru_iconst dX7_read_103 kc_i_1 <| ru_istore_n (i := 2) dX7_read_104 rfl (by decide) <| ru_iconst dX7_read_105 kc_i_0 <| ru_istore_n (i := 3) dX7_read_106 rfl (by decide) <| ?_
  exact ru_pick [0, 2, 3] rfl (tbb_X7_read_107 hl0 hd   _ _ _ _ _ _ h)
theorem tbb_X7_read_51 {l : Launch} {g : ab_G} (hl0 : l.stackTraces = false) {d2 : Nat} (hd : 39 ≤ d2 + 1)   : ∀ (n : Nat) (l0 : Nat) (l2 : Int32) (m0 : ab_Mm) (z : (Int32 × ab_Mm)), bb_X7_read_51  n l0 l2 m0 = some z → ab_W l g cX7_read RX7 4 (some .int) [] false (d2 + 1) (.inl (some (.int z.1))) z.2 51 [(0, .ref l0), (2, .int l2)] [] m0 := by
  intro n
  induction n with
  | zero => intro l0 l2 m0 z h; cases h
  | succ n ih =>
    intro l0 l2 m0 z h
    rw [bb_X7_read_51] at h
    refine ru_iload_n (i := 2) dX7_read_51 rfl rfl <| ru_aload_n (i := 0) dX7_read_52 rfl rfl <| ?_
    refine ru_getI h dX7_read_53 lk_X7_35 ?_
    intro v1 h
    refine ru_icmp_ge (tgt := 99) dX7_read_56 (by decide) (fun hc => ?_) (fun hc => ?_)
    · rw [if_pos hc] at h
      exact ru_pick [0] rfl (tbb_X7_read_99 hl0 hd   _ _ _ h)
    · rw [if_neg hc] at h
      refine ru_iload_n (i := 2) dX7_read_59 rfl rfl <| ru_aload_n (i := 0) dX7_read_60 rfl rfl <| ?_
      refine ru_getR h dX7_read_61 lk_X7_9 ?_
      intro v2 h
      refine ru_alen 1 h dX7_read_64 ?_
      intro v3 h
      refine ru_icmp_ge (tgt := 99) dX7_read_65 (by decide) (fun hc => ?_) (fun hc => ?_)
      · rw [if_pos hc] at h
        exact ru_pick [0] rfl (tbb_X7_read_99 hl0 hd   _ _ _ h)
      · rw [if_neg hc] at h
        refine ru_iload_n (i := 2) dX7_read_68 rfl rfl <| ru_aload_n (i := 0) dX7_read_69 rfl rfl <| ?_
        refine ru_getR h dX7_read_70 lk_X7_19 ?_
        intro v4 h
        refine ru_alen 1 h dX7_read_73 ?_
        intro v5 h
        refine ru_icmp_ge (tgt := 99) dX7_read_74 (by decide) (fun hc => ?_) (fun hc => ?_)
        · rw [if_pos hc] at h
          exact ru_pick [0] rfl (tbb_X7_read_99 hl0 hd   _ _ _ h)
        · rw [if_neg hc] at h
          refine ru_aload_n (i := 0) dX7_read_77 rfl rfl <| ?_
          refine ru_getR h dX7_read_78 lk_X7_19 ?_
          intro v6 h
          refine ru_iload_n (i := 2) dX7_read_81 rfl rfl <| ru_aload_n (i := 0) dX7_read_82 rfl rfl <| ?_
          refine ru_getR h dX7_read_83 lk_X7_9 ?_
          intro v7 h
          refine ru_iload_n (i := 2) dX7_read_86 rfl rfl <| ?_
          refine ru_baload h dX7_read_87 ?_
          intro v8 h
          obtain ⟨q9, hq9, h⟩ := Option.bind_eq_some_iff.mp h
          refine ru_callS (tm_X7_sortOf hl0 (by omega) hq9) dX7_read_88 rfl pm_X7_62 mf_X7_sortOf rfl rfl (Nat.le_of_ble_eq_true rfl) ?_
          refine ru_i2b dX7_read_91 <| ?_
          refine ru_bastore h dX7_read_92 ?_
          intro m10 h
          refine ru_iinc dX7_read_93 (by decide) rfl (ab_inc kc_i_1) <| ru_goto (tgt := 51) dX7_read_96 (by decide) <| ?_
          exact ru_pick [0, 2] rfl (ih _ _ _ _ h)
theorem te_X7_read {l : Launch} {g : ab_G} (hl0 : l.stackTraces = false) {d2 : Nat} (hd : 39 ≤ d2 + 1)   (l0 : Nat) (l1 : Int32) (m0 : ab_Mm) (z : (Int32 × ab_Mm)) (h : dd_X7_read  l0 l1 m0 = some z) : ab_W l g cX7_read RX7 4 (some .int) [] false (d2 + 1) (.inl (some (.int z.1))) z.2 0 [(0, .ref l0), (1, .int l1)] [] m0 := by
  unfold dd_X7_read at h
  refine ru_aload_n (i := 0) dX7_read_0 rfl rfl <| ?_
  refine ru_getR h dX7_read_1 lk_X7_25 ?_
  intro v1 h
  obtain ⟨_, hrc, h⟩ := Option.bind_eq_some_iff.mp h
  obtain ⟨q2, hq2, h⟩ := Option.bind_eq_some_iff.mp h
  refine ru_callV (tm_X1_reset hl0 (by omega) hq2) dX7_read_4 rfl pm_X7_50 mf_X1_reset (ab_rcv_of hrc rfl) rfl rfl (Nat.le_of_ble_eq_true rfl) ?_
  refine ru_aload_n (i := 0) dX7_read_7 rfl rfl <| ru_iconst dX7_read_8 kc_i_m1 <| ?_
  refine ru_putI h dX7_read_9 lk_X7_29 ?_
  intro m3 h
  refine ru_aload_n (i := 0) dX7_read_12 rfl rfl <| ru_iconst dX7_read_13 kc_i_0 <| ?_
  refine ru_putI h dX7_read_14 lk_X7_32 ?_
  intro m4 h
  refine ru_aload_n (i := 0) dX7_read_17 rfl rfl <| ru_iconst dX7_read_18 kc_i_0 <| ru_iload_n (i := 1) dX7_read_19 rfl rfl <| ru_aload_n (i := 0) dX7_read_20 rfl rfl <| ?_
  refine ru_getR h dX7_read_21 lk_X7_9 ?_
  intro v5 h
  refine ru_alen 1 h dX7_read_24 ?_
  intro v6 h
  refine ru_mmin dX7_read_25 ⟨pm_X7_53, pq_min_s, pq_ini, pq_min_c⟩ (Nat.le_of_ble_eq_true rfl) <| ru_mmax dX7_read_28 ⟨pm_X7_59, pq_max_s, pq_ini, pq_max_c⟩ (Nat.le_of_ble_eq_true rfl) <| ?_
  refine ru_putI h dX7_read_31 lk_X7_35 ?_
  intro m7 h
  refine ru_aload_n (i := 0) dX7_read_34 rfl rfl <| ru_iconst dX7_read_35 kc_i_0 <| ?_
  refine ru_putI h dX7_read_36 lk_X7_15 ?_
  intro m8 h
  refine ru_aload_n (i := 0) dX7_read_39 rfl rfl <| ru_iconst dX7_read_40 kc_i_0 <| ?_
  refine ru_putI h dX7_read_41 lk_X7_38 ?_
  intro m9 h
  refine ru_aload_n (i := 0) dX7_read_44 rfl rfl <| ru_iconst dX7_read_45 kc_i_0 <| ?_
  refine ru_putI h dX7_read_46 lk_X7_47 ?_
  intro m10 h
  refine ru_iconst dX7_read_49 kc_i_0 <| ru_istore_n (i := 2) dX7_read_50 rfl (by decide) <| ?_
  exact ru_pick [0, 2] rfl (tbb_X7_read_51 hl0 hd   _ _ _ _ _ h)
theorem tm_X7_read {l : Launch} {g : ab_G} (hl0 : l.stackTraces = false) {d : Nat} (hd : 39 ≤ d) {l0 : Nat} {l1 : Int32} {m : ab_Mm} {z : (Int32 × ab_Mm)} (h : dd_X7_read l0 l1 m = some z) : ab_Met l g yX7_read cX7_read 4 (some .int) [] d [.ref l0, .int l1] m (.inl (some (.int z.1))) z.2 := by
  obtain ⟨d2, rfl⟩ : ∃ d2, d = d2 + 1 := ⟨d - 1, by omega⟩
  exact ab_of hl0 (by decide +kernel) (Nat.le_of_ble_eq_true rfl) (fun q => by cases q) rfl (te_X7_read hl0 hd _ _ _ _ h)
