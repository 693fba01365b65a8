/-! ===== the methods keep to these functions (by program) ===== -/
theorem te_X7_init {l : Launch} {g : ab_G} (hl0 : l.stackTraces = false) {d2 : Nat} (hd : 5 ≤ d2 + 1)   (l0 : Nat) (m0 : ab_Mm) (z : (Unit × ab_Mm)) (h : dd_X7_init  l0 m0 = some z) : ab_W l g cX7_init RX7 1 none [] true (d2 + 1) (.inl none) z.2 0 [(0, .ref l0)] [] m0 := by
  unfold dd_X7_init at h
  refine ru_aload_n (i := 0) dX7_init_0 rfl rfl <| ru_objInit dX7_init_1 ⟨pm_X7_3, po_inst, po_code⟩ (Nat.le_of_ble_eq_true rfl) <| ru_aload_n (i := 0) dX7_init_4 rfl rfl <| ru_sipush dX7_init_5 kc_s_800 <| ?_
  refine ru_newB h dX7_init_8 fa_byte ?_
  intro q1 h
  refine ru_putR h dX7_init_10 lk_X7_9 (fun _ => ⟨rfl, rfl⟩) rfl (fun q hq => by cases hq; rfl) (fun q hq => by cases hq; exact pf_X7_9) ?_
  intro m2 h
  refine ru_aload_n (i := 0) dX7_init_13 rfl rfl <| ru_iconst dX7_init_14 kc_i_0 <| ?_
  refine ru_putI h dX7_init_15 lk_X7_15 ?_
  intro m3 h
  refine ru_aload_n (i := 0) dX7_init_18 rfl rfl <| ru_sipush dX7_init_19 kc_s_800 <| ?_
  refine ru_newB h dX7_init_22 fa_byte ?_
  intro q4 h
  refine ru_putR h dX7_init_24 lk_X7_19 (fun _ => ⟨rfl, rfl⟩) rfl (fun q hq => by cases hq; rfl) (fun q hq => by cases hq; exact pf_X7_19) ?_
  intro m5 h
  refine ru_aload_n (i := 0) dX7_init_27 rfl rfl <| ?_
  refine ru_new h dX7_init_28 nw_X7_22 ?_
  intro q6 h
  refine ru_dup dX7_init_31 rfl <| ?_
  obtain ⟨q7, hq7, h⟩ := Option.bind_eq_some_iff.mp h
  refine ru_callI rfl (tm_X1_init hl0 (by omega) hq7) dX7_init_32 rfl (Or.inl pm_X7_24) mf_X1_init rfl rfl (Nat.le_of_ble_eq_true rfl) ?_
  refine ru_putR h dX7_init_35 lk_X7_25 (fun _ => ⟨rfl, rfl⟩) rfl (fun q hq => by cases hq; rfl) (fun q hq => by cases hq; exact pf_X7_25) ?_
  intro m8 h
  refine ru_aload_n (i := 0) dX7_init_38 rfl rfl <| ru_iconst dX7_init_39 kc_i_m1 <| ?_
  refine ru_putI h dX7_init_40 lk_X7_29 ?_
  intro m9 h
  refine ru_aload_n (i := 0) dX7_init_43 rfl rfl <| ru_iconst dX7_init_44 kc_i_0 <| ?_
  refine ru_putI h dX7_init_45 lk_X7_32 ?_
  intro m10 h
  refine ru_aload_n (i := 0) dX7_init_48 rfl rfl <| ru_iconst dX7_init_49 kc_i_0 <| ?_
  refine ru_putI h dX7_init_50 lk_X7_35 ?_
  intro m11 h
  refine ru_aload_n (i := 0) dX7_init_53 rfl rfl <| ru_iconst dX7_init_54 kc_i_0 <| ?_
  refine ru_putI h dX7_init_55 lk_X7_38 ?_
  intro m12 h
  refine ru_aload_n (i := 0) dX7_init_58 rfl rfl <| ru_iconst dX7_init_59 kc_i_0 <| ?_
  refine ru_putI h dX7_init_60 lk_X7_41 ?_
  intro m13 h
  refine ru_aload_n (i := 0) dX7_init_63 rfl rfl <| ru_iconst dX7_init_64 kc_i_0 <| ?_
  refine ru_putI h dX7_init_65 lk_X7_44 ?_
  intro m14 h
  refine ru_aload_n (i := 0) dX7_init_68 rfl rfl <| ru_iconst dX7_init_69 kc_i_0 <| ?_
  refine ru_putI h dX7_init_70 lk_X7_47 ?_
  intro m15 h
  cases h
  exact ru_ret (v := none) ⟨rfl, dX7_init_73⟩
theorem tm_X7_init {l : Launch} {g : ab_G} (hl0 : l.stackTraces = false) {d : Nat} (hd : 5 ≤ d) {l0 : Nat} {m : ab_Mm} {z : (Unit × ab_Mm)} (h : dd_X7_init l0 m = some z) : ab_Met l g yX7_init cX7_init 1 none [] d [.ref l0] m (.inl none) z.2 := by
  obtain ⟨d2, rfl⟩ : ∃ d2, d = d2 + 1 := ⟨d - 1, by omega⟩
  exact ab_of hl0 (by decide +kernel) (Nat.le_of_ble_eq_true rfl) (fun _ => rfl) rfl (te_X7_init hl0 hd _ _ _ h)
theorem tbb_X7_putWord_49 {l : Launch} {g : ab_G} (hl0 : l.stackTraces = false) {d2 : Nat} (hd : 1 ≤ d2 + 1) (r3 : Nat → Int32 → Int32 → ab_Mm → Option (Unit × ab_Mm)) (hr3 : ∀ (l0 : Nat) (l1 : Int32) (l2 : Int32) (m : ab_Mm) (z : (Unit × ab_Mm)), r3 l0 l1 l2 m = some z → ab_W l g cX7_putWord RX7 3 none [] false (d2 + 1) (.inl none) z.2 3 [(0, .ref l0), (1, .int l1), (2, .int l2)] [] m) (l0 : Nat) (l1 : Int32) (l2 : Int32) (m0 : ab_Mm) (z : (Unit × ab_Mm)) (h : bb_X7_putWord_49 r3 l0 l1 l2 m0 = some z) : ab_W l g cX7_putWord RX7 3 none [] false (d2 + 1) (.inl none) z.2 49 [(0, .ref l0), (1, .int l1), (2, .int l2)] [] m0 := by
  unfold bb_X7_putWord_49 at h
  refine ru_iinc dX7_putWord_49 (by decide) rfl (ab_inc kc_i_m8) <| ru_goto (tgt := 3) dX7_putWord_52 (by decide) <| ?_
  exact ru_pick [0, 1, 2] rfl (hr3 _ _ _ _ _ h)
theorem tbb_X7_putWord_3 {l : Launch} {g : ab_G} (hl0 : l.stackTraces = false) {d2 : Nat} (hd : 1 ≤ d2 + 1)   : ∀ (n : Nat) (l0 : Nat) (l1 : Int32) (l2 : Int32) (m0 : ab_Mm) (z : (Unit × ab_Mm)), bb_X7_putWord_3  n l0 l1 l2 m0 = some z → ab_W l g cX7_putWord RX7 3 none [] false (d2 + 1) (.inl none) z.2 3 [(0, .ref l0), (1, .int l1), (2, .int l2)] [] m0 := by
  intro n
  induction n with
  | zero => intro l0 l1 l2 m0 z h; cases h
  | succ n ih =>
    intro l0 l1 l2 m0 z h
    rw [bb_X7_putWord_3] at h
    refine ru_iload_n (i := 2) dX7_putWord_3 rfl rfl <| ?_
    refine ru_if_lt (tgt := 55) dX7_putWord_4 (by decide) (fun hc => ?_) (fun hc => ?_)
    · rw [if_pos hc] at h
      cases h
      exact ru_ret (v := none) ⟨rfl, dX7_putWord_55⟩
    · rw [if_neg hc] at h
      refine ru_aload_n (i := 0) dX7_putWord_7 rfl rfl <| ?_
      refine ru_getI h dX7_putWord_8 lk_X7_15 ?_
      intro v1 h
      refine ru_if_lt (tgt := 49) dX7_putWord_11 (by decide) (fun hc => ?_) (fun hc => ?_)
      · rw [if_pos hc] at h
        exact ru_pick [0, 1, 2] rfl (tbb_X7_putWord_49 hl0 hd _ ih _ _ _ _ _ h)
      · rw [if_neg hc] at h
        refine ru_aload_n (i := 0) dX7_putWord_14 rfl rfl <| ?_
        refine ru_getI h dX7_putWord_15 lk_X7_15 ?_
        intro v2 h
        refine ru_aload_n (i := 0) dX7_putWord_18 rfl rfl <| ?_
        refine ru_getR h dX7_putWord_19 lk_X7_9 ?_
        intro v3 h
        refine ru_alen 1 h dX7_putWord_22 ?_
        intro v4 h
        refine ru_icmp_ge (tgt := 49) dX7_putWord_23 (by decide) (fun hc => ?_) (fun hc => ?_)
        · rw [if_pos hc] at h
          exact ru_pick [0, 1, 2] rfl (tbb_X7_putWord_49 hl0 hd _ ih _ _ _ _ _ h)
        · rw [if_neg hc] at h
          refine ru_aload_n (i := 0) dX7_putWord_26 rfl rfl <| ?_
          refine ru_getR h dX7_putWord_27 lk_X7_9 ?_
          intro v5 h
          refine ru_aload_n (i := 0) dX7_putWord_30 rfl rfl <| ?_
          refine ru_getI h dX7_putWord_31 lk_X7_15 ?_
          intro v6 h
          refine ru_iload_n (i := 1) dX7_putWord_34 rfl rfl <| ru_iload_n (i := 2) dX7_putWord_35 rfl rfl <| ru_ishr dX7_putWord_36 <| ru_i2b dX7_putWord_37 <| ?_
          refine ru_bastore h dX7_putWord_38 ?_
          intro m7 h
          refine ru_aload_n (i := 0) dX7_putWord_39 rfl rfl <| ru_dup dX7_putWord_40 rfl <| ?_
          refine ru_getI h dX7_putWord_41 lk_X7_15 ?_
          intro v8 h
          refine ru_iconst dX7_putWord_44 kc_i_1 <| ru_iadd dX7_putWord_45 <| ?_
          refine ru_putI h dX7_putWord_46 lk_X7_15 ?_
          intro m9 h
          exact ru_pick [0, 1, 2] rfl (tbb_X7_putWord_49 hl0 hd _ ih _ _ _ _ _ h)
theorem te_X7_putWord {l : Launch} {g : ab_G} (hl0 : l.stackTraces = false) {d2 : Nat} (hd : 1 ≤ d2 + 1)   (l0 : Nat) (l1 : Int32) (m0 : ab_Mm) (z : (Unit × ab_Mm)) (h : dd_X7_putWord  l0 l1 m0 = some z) : ab_W l g cX7_putWord RX7 3 none [] false (d2 + 1) (.inl none) z.2 0 [(0, .ref l0), (1, .int l1)] [] m0 := by
  unfold dd_X7_putWord at h
  refine ru_bipush dX7_putWord_0 kc_b_24 <| ru_istore_n (i := 2) dX7_putWord_2 rfl (by decide) <| ?_
  exact ru_pick [0, 1, 2] rfl (tbb_X7_putWord_3 hl0 hd   _ _ _ _ _ _ h)
theorem tm_X7_putWord {l : Launch} {g : ab_G} (hl0 : l.stackTraces = false) {d : Nat} (hd : 1 ≤ d) {l0 : Nat} {l1 : Int32} {m : ab_Mm} {z : (Unit × ab_Mm)} (h : dd_X7_putWord l0 l1 m = some z) : ab_Met l g yX7_putWord cX7_putWord 3 none [] d [.ref l0, .int l1] m (.inl none) z.2 := by
  obtain ⟨d2, rfl⟩ : ∃ d2, d = d2 + 1 := ⟨d - 1, by omega⟩
  exact ab_of hl0 (by decide +kernel) (Nat.le_of_ble_eq_true rfl) (fun q => by cases q) rfl (te_X7_putWord hl0 hd _ _ _ _ h)
theorem tbb_X7_sortOf_114 {l : Launch} {g : ab_G} (hl0 : l.stackTraces = false) {d2 : Nat} (hd : 1 ≤ d2 + 1)    (m0 : ab_Mm) (z : (Int32 × ab_Mm)) (h : bb_X7_sortOf_114   m0 = some z) : ab_W l g cX7_sortOf RX7 1 (some .int) [] false (d2 + 1) (.inl (some (.int z.1))) z.2 114 [] [] m0 := by
  unfold bb_X7_sortOf_114 at h
  refine ru_iconst dX7_sortOf_114 kc_i_4 <| ?_
  cases h
  exact ru_ret (v := some (.int _)) ⟨_, rfl, rfl, dX7_sortOf_115⟩
theorem tbb_X7_sortOf_112 {l : Launch} {g : ab_G} (hl0 : l.stackTraces = false) {d2 : Nat} (hd : 1 ≤ d2 + 1)    (m0 : ab_Mm) (z : (Int32 × ab_Mm)) (h : bb_X7_sortOf_112   m0 = some z) : ab_W l g cX7_sortOf RX7 1 (some .int) [] false (d2 + 1) (.inl (some (.int z.1))) z.2 112 [] [] m0 := by
  unfold bb_X7_sortOf_112 at h
  refine ru_iconst dX7_sortOf_112 kc_i_5 <| ?_
  cases h
  exact ru_ret (v := some (.int _)) ⟨_, rfl, rfl, dX7_sortOf_113⟩
theorem tbb_X7_sortOf_28 {l : Launch} {g : ab_G} (hl0 : l.stackTraces = false) {d2 : Nat} (hd : 1 ≤ d2 + 1)   (l0 : Int32) (m0 : ab_Mm) (z : (Int32 × ab_Mm)) (h : bb_X7_sortOf_28  l0 m0 = some z) : ab_W l g cX7_sortOf RX7 1 (some .int) [] false (d2 + 1) (.inl (some (.int z.1))) z.2 28 [(0, .int l0)] [] m0 := by
  unfold bb_X7_sortOf_28 at h
  refine ru_iload_n (i := 0) dX7_sortOf_28 rfl rfl <| ?_
  rcases ab_iff h with ⟨hc, h⟩ | ⟨hc10, h⟩
  · rw [hc]
    refine ru_lookup (off := 83) (tgt := 112) dX7_sortOf_29 (by decide) (by decide) (by decide) ?_
    exact ru_pick [] rfl (tbb_X7_sortOf_112 hl0 hd    _ _ h)
  rcases ab_iff h with ⟨hc, h⟩ | ⟨hc32, h⟩
  · rw [hc]
    refine ru_lookup (off := 83) (tgt := 112) dX7_sortOf_29 (by decide) (by decide) (by decide) ?_
    exact ru_pick [] rfl (tbb_X7_sortOf_112 hl0 hd    _ _ h)
  rcases ab_iff h with ⟨hc, h⟩ | ⟨hc40, h⟩
  · rw [hc]
    refine ru_lookup (off := 85) (tgt := 114) dX7_sortOf_29 (by decide) (by decide) (by decide) ?_
    exact ru_pick [] rfl (tbb_X7_sortOf_114 hl0 hd    _ _ h)
  rcases ab_iff h with ⟨hc, h⟩ | ⟨hc41, h⟩
  · rw [hc]
    refine ru_lookup (off := 85) (tgt := 114) dX7_sortOf_29 (by decide) (by decide) (by decide) ?_
    exact ru_pick [] rfl (tbb_X7_sortOf_114 hl0 hd    _ _ h)
  rcases ab_iff h with ⟨hc, h⟩ | ⟨hc42, h⟩
  · rw [hc]
    refine ru_lookup (off := 85) (tgt := 114) dX7_sortOf_29 (by decide) (by decide) (by decide) ?_
    exact ru_pick [] rfl (tbb_X7_sortOf_114 hl0 hd    _ _ h)
  rcases ab_iff h with ⟨hc, h⟩ | ⟨hc43, h⟩
  · rw [hc]
    refine ru_lookup (off := 85) (tgt := 114) dX7_sortOf_29 (by decide) (by decide) (by decide) ?_
    exact ru_pick [] rfl (tbb_X7_sortOf_114 hl0 hd    _ _ h)
  rcases ab_iff h with ⟨hc, h⟩ | ⟨hc45, h⟩
  · rw [hc]
    refine ru_lookup (off := 85) (tgt := 114) dX7_sortOf_29 (by decide) (by decide) (by decide) ?_
    exact ru_pick [] rfl (tbb_X7_sortOf_114 hl0 hd    _ _ h)
  rcases ab_iff h with ⟨hc, h⟩ | ⟨hc47, h⟩
  · rw [hc]
    refine ru_lookup (off := 85) (tgt := 114) dX7_sortOf_29 (by decide) (by decide) (by decide) ?_
    exact ru_pick [] rfl (tbb_X7_sortOf_114 hl0 hd    _ _ h)
  rcases ab_iff h with ⟨hc, h⟩ | ⟨hc59, h⟩
  · rw [hc]
    refine ru_lookup (off := 85) (tgt := 114) dX7_sortOf_29 (by decide) (by decide) (by decide) ?_
    exact ru_pick [] rfl (tbb_X7_sortOf_114 hl0 hd    _ _ h)
  have e10 := ab_ne_int hc10 (by decide : (10 : Int32).toInt = 10)
  have e32 := ab_ne_int hc32 (by decide : (32 : Int32).toInt = 32)
  have e40 := ab_ne_int hc40 (by decide : (40 : Int32).toInt = 40)
  have e41 := ab_ne_int hc41 (by decide : (41 : Int32).toInt = 41)
  have e42 := ab_ne_int hc42 (by decide : (42 : Int32).toInt = 42)
  have e43 := ab_ne_int hc43 (by decide : (43 : Int32).toInt = 43)
  have e45 := ab_ne_int hc45 (by decide : (45 : Int32).toInt = 45)
  have e47 := ab_ne_int hc47 (by decide : (47 : Int32).toInt = 47)
  have e59 := ab_ne_int hc59 (by decide : (59 : Int32).toInt = 59)
  refine ru_lookup (tgt := 116) (off := 87) dX7_sortOf_29 (by decide) (by simp [Op.lookupswitch.offset, e10, Ne.symm e10, e32, Ne.symm e32, e40, Ne.symm e40, e41, Ne.symm e41, e42, Ne.symm e42, e43, Ne.symm e43, e45, Ne.symm e45, e47, Ne.symm e47, e59, Ne.symm e59]) (by decide) ?_
  refine ru_iconst dX7_sortOf_116 kc_i_3 <| ?_
  cases h
  exact ru_ret (v := some (.int _)) ⟨_, rfl, rfl, dX7_sortOf_117⟩
theorem tbb_X7_sortOf_14 {l : Launch} {g : ab_G} (hl0 : l.stackTraces = false) {d2 : Nat} (hd : 1 ≤ d2 + 1)   (l0 : Int32) (m0 : ab_Mm) (z : (Int32 × ab_Mm)) (h : bb_X7_sortOf_14  l0 m0 = some z) : ab_W l g cX7_sortOf RX7 1 (some .int) [] false (d2 + 1) (.inl (some (.int z.1))) z.2 14 [(0, .int l0)] [] m0 := by
  unfold bb_X7_sortOf_14 at h
  refine ru_iload_n (i := 0) dX7_sortOf_14 rfl rfl <| ru_bipush dX7_sortOf_15 kc_b_48 <| ?_
  refine ru_icmp_lt (tgt := 28) dX7_sortOf_17 (by decide) (fun hc => ?_) (fun hc => ?_)
  · rw [if_pos hc] at h
    exact ru_pick [0] rfl (tbb_X7_sortOf_28 hl0 hd   _ _ _ h)
  · rw [if_neg hc] at h
    refine ru_iload_n (i := 0) dX7_sortOf_20 rfl rfl <| ru_bipush dX7_sortOf_21 kc_b_57 <| ?_
    refine ru_icmp_gt (tgt := 28) dX7_sortOf_23 (by decide) (fun hc => ?_) (fun hc => ?_)
    · rw [if_pos hc] at h
      exact ru_pick [0] rfl (tbb_X7_sortOf_28 hl0 hd   _ _ _ h)
    · rw [if_neg hc] at h
      refine ru_iconst dX7_sortOf_26 kc_i_2 <| ?_
      cases h
      exact ru_ret (v := some (.int _)) ⟨_, rfl, rfl, dX7_sortOf_27⟩
theorem te_X7_sortOf {l : Launch} {g : ab_G} (hl0 : l.stackTraces = false) {d2 : Nat} (hd : 1 ≤ d2 + 1)   (l0 : Int32) (m0 : ab_Mm) (z : (Int32 × ab_Mm)) (h : dd_X7_sortOf  l0 m0 = some z) : ab_W l g cX7_sortOf RX7 1 (some .int) [] false (d2 + 1) (.inl (some (.int z.1))) z.2 0 [(0, .int l0)] [] m0 := by
  unfold dd_X7_sortOf at h
  refine ru_iload_n (i := 0) dX7_sortOf_0 rfl rfl <| ru_bipush dX7_sortOf_1 kc_b_97 <| ?_
  refine ru_icmp_lt (tgt := 14) dX7_sortOf_3 (by decide) (fun hc => ?_) (fun hc => ?_)
  · rw [if_pos hc] at h
    exact ru_pick [0] rfl (tbb_X7_sortOf_14 hl0 hd   _ _ _ h)
  · rw [if_neg hc] at h
    refine ru_iload_n (i := 0) dX7_sortOf_6 rfl rfl <| ru_bipush dX7_sortOf_7 kc_b_122 <| ?_
    refine ru_icmp_gt (tgt := 14) dX7_sortOf_9 (by decide) (fun hc => ?_) (fun hc => ?_)
    · rw [if_pos hc] at h
      exact ru_pick [0] rfl (tbb_X7_sortOf_14 hl0 hd   _ _ _ h)
    · rw [if_neg hc] at h
      refine ru_iconst dX7_sortOf_12 kc_i_1 <| ?_
      cases h
      exact ru_ret (v := some (.int _)) ⟨_, rfl, rfl, dX7_sortOf_13⟩
theorem tm_X7_sortOf {l : Launch} {g : ab_G} (hl0 : l.stackTraces = false) {d : Nat} (hd : 1 ≤ d) {l0 : Int32} {m : ab_Mm} {z : (Int32 × ab_Mm)} (h : dd_X7_sortOf l0 m = some z) : ab_Met l g yX7_sortOf cX7_sortOf 1 (some .int) [] d [.int l0] m (.inl (some (.int z.1))) z.2 := by
  obtain ⟨d2, rfl⟩ : ∃ d2, d = d2 + 1 := ⟨d - 1, by omega⟩
  exact ab_of hl0 (by decide +kernel) (Nat.le_of_ble_eq_true rfl) (fun q => by cases q) rfl (te_X7_sortOf hl0 hd _ _ _ h)
theorem tbb_X7_runEnd_43 {l : Launch} {g : ab_G} (hl0 : l.stackTraces = false) {d2 : Nat} (hd : 1 ≤ d2 + 1)   (l3 : Int32) (m0 : ab_Mm) (z : (Int32 × ab_Mm)) (h : bb_X7_runEnd_43  l3 m0 = some z) : ab_W l g cX7_runEnd RX7 4 (some .int) [] false (d2 + 1) (.inl (some (.int z.1))) z.2 43 [(3, .int l3)] [] m0 := by
  unfold bb_X7_runEnd_43 at h
  refine ru_iload_n (i := 3) dX7_runEnd_43 rfl rfl <| ?_
  cases h
  exact ru_ret (v := some (.int _)) ⟨_, rfl, rfl, dX7_runEnd_44⟩
theorem tbb_X7_runEnd_10 {l : Launch} {g : ab_G} (hl0 : l.stackTraces = false) {d2 : Nat} (hd : 1 ≤ d2 + 1)   : ∀ (n : Nat) (l0 : Nat) (l2 : Int32) (l3 : Int32) (m0 : ab_Mm) (z : (Int32 × ab_Mm)), bb_X7_runEnd_10  n l0 l2 l3 m0 = some z → ab_W l g cX7_runEnd RX7 4 (some .int) [] false (d2 + 1) (.inl (some (.int z.1))) z.2 10 [(0, .ref l0), (2, .int l2), (3, .int l3)] [] m0 := by
  intro n
  induction n with
  | zero => intro l0 l2 l3 m0 z h; cases h
  | succ n ih =>
    intro l0 l2 l3 m0 z h
    rw [bb_X7_runEnd_10] at h
    refine ru_iload_n (i := 3) dX7_runEnd_10 rfl rfl <| ru_aload_n (i := 0) dX7_runEnd_11 rfl rfl <| ?_
    refine ru_getI h dX7_runEnd_12 lk_X7_35 ?_
    intro v1 h
    refine ru_icmp_ge (tgt := 43) dX7_runEnd_15 (by decide) (fun hc => ?_) (fun hc => ?_)
    · rw [if_pos hc] at h
      exact ru_pick [3] rfl (tbb_X7_runEnd_43 hl0 hd   _ _ _ h)
    · rw [if_neg hc] at h
      refine ru_iload_n (i := 3) dX7_runEnd_18 rfl rfl <| ru_aload_n (i := 0) dX7_runEnd_19 rfl rfl <| ?_
      refine ru_getR h dX7_runEnd_20 lk_X7_19 ?_
      intro v2 h
      refine ru_alen 1 h dX7_runEnd_23 ?_
      intro v3 h
      refine ru_icmp_ge (tgt := 43) dX7_runEnd_24 (by decide) (fun hc => ?_) (fun hc => ?_)
      · rw [if_pos hc] at h
        exact ru_pick [3] rfl (tbb_X7_runEnd_43 hl0 hd   _ _ _ h)
      · rw [if_neg hc] at h
        refine ru_aload_n (i := 0) dX7_runEnd_27 rfl rfl <| ?_
        refine ru_getR h dX7_runEnd_28 lk_X7_19 ?_
        intro v4 h
        refine ru_iload_n (i := 3) dX7_runEnd_31 rfl rfl <| ?_
        refine ru_baload h dX7_runEnd_32 ?_
        intro v5 h
        refine ru_iload_n (i := 2) dX7_runEnd_33 rfl rfl <| ?_
        refine ru_icmp_ne (tgt := 43) dX7_runEnd_34 (by decide) (fun hc => ?_) (fun hc => ?_)
        · rw [if_neg hc] at h
          exact ru_pick [3] rfl (tbb_X7_runEnd_43 hl0 hd   _ _ _ h)
        · rw [if_pos hc] at h
          refine ru_iinc dX7_runEnd_37 (by decide) rfl (ab_inc kc_i_1) <| ru_goto (tgt := 10) dX7_runEnd_40 (by decide) <| ?_
          exact ru_pick [0, 2, 3] rfl (ih _ _ _ _ _ h)
theorem tbb_X7_runEnd_9 {l : Launch} {g : ab_G} (hl0 : l.stackTraces = false) {d2 : Nat} (hd : 1 ≤ d2 + 1)   (l0 : Nat) (l2 : Int32) (s0 : Int32) (m0 : ab_Mm) (z : (Int32 × ab_Mm)) (h : bb_X7_runEnd_9  l0 l2 s0 m0 = some z) : ab_W l g cX7_runEnd RX7 4 (some .int) [] false (d2 + 1) (.inl (some (.int z.1))) z.2 9 [(0, .ref l0), (2, .int l2)] [.int s0] m0 := by
  unfold bb_X7_runEnd_9 at h
  refine ru_istore_n (i := 3) dX7_runEnd_9 rfl (by decide) <| ?_
  exact ru_pick [0, 2, 3] rfl (tbb_X7_runEnd_10 hl0 hd   _ _ _ _ _ _ h)
theorem te_X7_runEnd {l : Launch} {g : ab_G} (hl0 : l.stackTraces = false) {d2 : Nat} (hd : 1 ≤ d2 + 1)   (l0 : Nat) (l1 : Int32) (l2 : Int32) (m0 : ab_Mm) (z : (Int32 × ab_Mm)) (h : dd_X7_runEnd  l0 l1 l2 m0 = some z) : ab_W l g cX7_runEnd RX7 4 (some .int) [] false (d2 + 1) (.inl (some (.int z.1))) z.2 0 [(0, .ref l0), (1, .int l1), (2, .int l2)] [] m0 := by
  unfold dd_X7_runEnd at h
  refine ru_iload_n (i := 1) dX7_runEnd_0 rfl rfl <| ?_
  refine ru_if_ge (tgt := 8) dX7_runEnd_1 (by decide) (fun hc => ?_) (fun hc => ?_)
  · rw [if_pos hc] at h
    refine ru_iload_n (i := 1) dX7_runEnd_8 rfl rfl <| ?_
    exact ru_pick [0, 2] rfl (tbb_X7_runEnd_9 hl0 hd   _ _ _ _ _ h)
  · rw [if_neg hc] at h
    refine ru_iconst dX7_runEnd_4 kc_i_0 <| ru_goto (tgt := 9) dX7_runEnd_5 (by decide) <| ?_
    exact ru_pick [0, 2] rfl (tbb_X7_runEnd_9 hl0 hd   _ _ _ _ _ h)
theorem tm_X7_runEnd {l : Launch} {g : ab_G} (hl0 : l.stackTraces = false) {d : Nat} (hd : 1 ≤ d) {l0 : Nat} {l1 : Int32} {l2 : Int32} {m : ab_Mm} {z : (Int32 × ab_Mm)} (h : dd_X7_runEnd l0 l1 l2 m = some z) : ab_Met l g yX7_runEnd cX7_runEnd 4 (some .int) [] d [.ref l0, .int l1, .int l2] m (.inl (some (.int z.1))) z.2 := by
  obtain ⟨d2, rfl⟩ : ∃ d2, d = d2 + 1 := ⟨d - 1, by omega⟩
  exact ab_of hl0 (by decide +kernel) (Nat.le_of_ble_eq_true rfl) (fun q => by cases q) rfl (te_X7_runEnd hl0 hd _ _ _ _ _ h)
theorem tbb_X7_advance_177 {l : Launch} {g : ab_G} (hl0 : l.stackTraces = false) {d2 : Nat} (hd : 2 ≤ d2 + 1)    (m0 : ab_Mm) (z : (Unit × ab_Mm)) (h : bb_X7_advance_177   m0 = some z) : ab_W l g cX7_advance RX7 3 none [] false (d2 + 1) (.inl none) z.2 177 [] [] m0 := by
  unfold bb_X7_advance_177 at h
  cases h
  exact ru_ret (v := none) ⟨rfl, dX7_advance_177⟩
theorem tbb_X7_advance_174 {l : Launch} {g : ab_G} (hl0 : l.stackTraces = false) {d2 : Nat} (hd : 2 ≤ d2 + 1)   (s0 : Nat) (s1 : Int32) (m0 : ab_Mm) (z : (Unit × ab_Mm)) (h : bb_X7_advance_174  s0 s1 m0 = some z) : ab_W l g cX7_advance RX7 3 none [] false (d2 + 1) (.inl none) z.2 174 [] [.int s1, .ref s0] m0 := by
  unfold bb_X7_advance_174 at h
  refine ru_putI h dX7_advance_174 lk_X7_44 ?_
  intro m1 h
  exact ru_pick [] rfl (tbb_X7_advance_177 hl0 hd    _ _ h)
theorem tbb_X7_advance_173 {l : Launch} {g : ab_G} (hl0 : l.stackTraces = false) {d2 : Nat} (hd : 2 ≤ d2 + 1)   (s0 : Nat) (m0 : ab_Mm) (z : (Unit × ab_Mm)) (h : bb_X7_advance_173  s0 m0 = some z) : ab_W l g cX7_advance RX7 3 none [] false (d2 + 1) (.inl none) z.2 173 [] [.ref s0] m0 := by
  unfold bb_X7_advance_173 at h
  refine ru_iconst dX7_advance_173 kc_i_3 <| ?_
  exact ru_pick [] rfl (tbb_X7_advance_174 hl0 hd   _ _ _ _ h)
theorem tbb_X7_advance_169 {l : Launch} {g : ab_G} (hl0 : l.stackTraces = false) {d2 : Nat} (hd : 2 ≤ d2 + 1)   (l1 : Int32) (s0 : Nat) (m0 : ab_Mm) (z : (Unit × ab_Mm)) (h : bb_X7_advance_169  l1 s0 m0 = some z) : ab_W l g cX7_advance RX7 3 none [] false (d2 + 1) (.inl none) z.2 169 [(1, .int l1)] [.ref s0] m0 := by
  unfold bb_X7_advance_169 at h
  refine ru_iload_n (i := 1) dX7_advance_169 rfl rfl <| ru_goto (tgt := 174) dX7_advance_170 (by decide) <| ?_
  exact ru_pick [] rfl (tbb_X7_advance_174 hl0 hd   _ _ _ _ h)
theorem tbb_X7_advance_123 {l : Launch} {g : ab_G} (hl0 : l.stackTraces = false) {d2 : Nat} (hd : 2 ≤ d2 + 1)   (l0 : Nat) (l1 : Int32) (s0 : Int32) (m0 : ab_Mm) (z : (Unit × ab_Mm)) (h : bb_X7_advance_123  l0 l1 s0 m0 = some z) : ab_W l g cX7_advance RX7 3 none [] false (d2 + 1) (.inl none) z.2 123 [(0, .ref l0), (1, .int l1)] [.int s0] m0 := by
  unfold bb_X7_advance_123 at h
  refine ru_istore_n (i := 2) dX7_advance_123 rfl (by decide) <| ru_iload_n (i := 1) dX7_advance_124 rfl rfl <| ru_iconst dX7_advance_125 kc_i_4 <| ?_
  refine ru_icmp_ne (tgt := 145) dX7_advance_126 (by decide) (fun hc => ?_) (fun hc => ?_)
  · rw [if_neg hc] at h
    refine ru_aload_n (i := 0) dX7_advance_145 rfl rfl <| ru_aload_n (i := 0) dX7_advance_146 rfl rfl <| ?_
    refine ru_getI h dX7_advance_147 lk_X7_38 ?_
    intro v1 h
    refine ru_aload_n (i := 0) dX7_advance_150 rfl rfl <| ?_
    refine ru_getI h dX7_advance_151 lk_X7_41 ?_
    intro v2 h
    refine ru_isub dX7_advance_154 <| ru_iload_n (i := 2) dX7_advance_155 rfl rfl <| ?_
    refine ru_icmp_gt (tgt := 173) dX7_advance_156 (by decide) (fun hc => ?_) (fun hc => ?_)
    · rw [if_pos hc] at h
      exact ru_pick [] rfl (tbb_X7_advance_173 hl0 hd   _ _ _ h)
    · rw [if_neg hc] at h
      refine ru_iload_n (i := 1) dX7_advance_159 rfl rfl <| ru_iconst dX7_advance_160 kc_i_1 <| ?_
      refine ru_icmp_eq (tgt := 169) dX7_advance_161 (by decide) (fun hc => ?_) (fun hc => ?_)
      · rw [if_pos hc] at h
        exact ru_pick [1] rfl (tbb_X7_advance_169 hl0 hd   _ _ _ _ h)
      · rw [if_neg hc] at h
        refine ru_iload_n (i := 1) dX7_advance_164 rfl rfl <| ru_iconst dX7_advance_165 kc_i_2 <| ?_
        refine ru_icmp_ne (tgt := 173) dX7_advance_166 (by decide) (fun hc => ?_) (fun hc => ?_)
        · rw [if_neg hc] at h
          exact ru_pick [] rfl (tbb_X7_advance_173 hl0 hd   _ _ _ h)
        · rw [if_pos hc] at h
          exact ru_pick [1] rfl (tbb_X7_advance_169 hl0 hd   _ _ _ _ h)
  · rw [if_pos hc] at h
    refine ru_aload_n (i := 0) dX7_advance_129 rfl rfl <| ru_aload_n (i := 0) dX7_advance_130 rfl rfl <| ?_
    refine ru_getR h dX7_advance_131 lk_X7_9 ?_
    intro v3 h
    refine ru_aload_n (i := 0) dX7_advance_134 rfl rfl <| ?_
    refine ru_getI h dX7_advance_135 lk_X7_41 ?_
    intro v4 h
    refine ru_baload h dX7_advance_138 ?_
    intro v5 h
    refine ru_putI h dX7_advance_139 lk_X7_44 ?_
    intro m6 h
    refine ru_goto (tgt := 177) dX7_advance_142 (by decide) <| ?_
    exact ru_pick [] rfl (tbb_X7_advance_177 hl0 hd    _ _ h)
theorem tbb_X7_advance_109 {l : Launch} {g : ab_G} (hl0 : l.stackTraces = false) {d2 : Nat} (hd : 2 ≤ d2 + 1)   (l0 : Nat) (l1 : Int32) (s0 : Nat) (s1 : Int32) (m0 : ab_Mm) (z : (Unit × ab_Mm)) (h : bb_X7_advance_109  l0 l1 s0 s1 m0 = some z) : ab_W l g cX7_advance RX7 3 none [] false (d2 + 1) (.inl none) z.2 109 [(0, .ref l0), (1, .int l1)] [.int s1, .ref s0] m0 := by
  unfold bb_X7_advance_109 at h
  refine ru_putI h dX7_advance_109 lk_X7_38 ?_
  intro m1 h
  refine ru_iload_n (i := 1) dX7_advance_112 rfl rfl <| ru_iconst dX7_advance_113 kc_i_1 <| ?_
  refine ru_icmp_ne (tgt := 122) dX7_advance_114 (by decide) (fun hc => ?_) (fun hc => ?_)
  · rw [if_neg hc] at h
    refine ru_iconst dX7_advance_122 kc_i_4 <| ?_
    exact ru_pick [0, 1] rfl (tbb_X7_advance_123 hl0 hd   _ _ _ _ _ h)
  · rw [if_pos hc] at h
    refine ru_bipush dX7_advance_117 kc_b_8 <| ru_goto (tgt := 123) dX7_advance_119 (by decide) <| ?_
    exact ru_pick [0, 1] rfl (tbb_X7_advance_123 hl0 hd   _ _ _ _ _ h)
theorem tbb_X7_advance_91 {l : Launch} {g : ab_G} (hl0 : l.stackTraces = false) {d2 : Nat} (hd : 2 ≤ d2 + 1)   (l0 : Nat) (l1 : Int32) (s0 : Nat) (m0 : ab_Mm) (z : (Unit × ab_Mm)) (h : bb_X7_advance_91  l0 l1 s0 m0 = some z) : ab_W l g cX7_advance RX7 3 none [] false (d2 + 1) (.inl none) z.2 91 [(0, .ref l0), (1, .int l1)] [.ref s0] m0 := by
  unfold bb_X7_advance_91 at h
  refine ru_aload_n (i := 0) dX7_advance_91 rfl rfl <| ru_aload_n (i := 0) dX7_advance_92 rfl rfl <| ?_
  refine ru_getI h dX7_advance_93 lk_X7_41 ?_
  intro v1 h
  refine ru_iload_n (i := 1) dX7_advance_96 rfl rfl <| ?_
  obtain ⟨_, hrc, h⟩ := Option.bind_eq_some_iff.mp h
  obtain ⟨q2, hq2, h⟩ := Option.bind_eq_some_iff.mp h
  refine ru_callV (tm_X7_runEnd hl0 (by omega) hq2) dX7_advance_97 rfl pm_X7_184 mf_X7_runEnd (ab_rcv_of hrc rfl) rfl rfl (Nat.le_of_ble_eq_true rfl) ?_
  refine ru_goto (tgt := 109) dX7_advance_100 (by decide) <| ?_
  exact ru_pick [0, 1] rfl (tbb_X7_advance_109 hl0 hd   _ _ _ _ _ _ h)
theorem tbb_X7_advance_48 {l : Launch} {g : ab_G} (hl0 : l.stackTraces = false) {d2 : Nat} (hd : 2 ≤ d2 + 1)   (l0 : Nat) (m0 : ab_Mm) (z : (Unit × ab_Mm)) (h : bb_X7_advance_48  l0 m0 = some z) : ab_W l g cX7_advance RX7 3 none [] false (d2 + 1) (.inl none) z.2 48 [(0, .ref l0)] [] m0 := by
  unfold bb_X7_advance_48 at h
  refine ru_aload_n (i := 0) dX7_advance_48 rfl rfl <| ru_iconst dX7_advance_49 kc_i_0 <| ?_
  refine ru_putI h dX7_advance_50 lk_X7_44 ?_
  intro m1 h
  refine ru_aload_n (i := 0) dX7_advance_53 rfl rfl <| ru_aload_n (i := 0) dX7_advance_54 rfl rfl <| ?_
  refine ru_getI h dX7_advance_55 lk_X7_35 ?_
  intro v2 h
  refine ru_putI h dX7_advance_58 lk_X7_41 ?_
  intro m3 h
  refine ru_aload_n (i := 0) dX7_advance_61 rfl rfl <| ru_aload_n (i := 0) dX7_advance_62 rfl rfl <| ?_
  refine ru_getI h dX7_advance_63 lk_X7_35 ?_
  intro v4 h
  refine ru_putI h dX7_advance_66 lk_X7_38 ?_
  intro m5 h
  cases h
  exact ru_ret (v := none) ⟨rfl, dX7_advance_69⟩
theorem te_X7_advance {l : Launch} {g : ab_G} (hl0 : l.stackTraces = false) {d2 : Nat} (hd : 2 ≤ d2 + 1)   (l0 : Nat) (m0 : ab_Mm) (z : (Unit × ab_Mm)) (h : dd_X7_advance  l0 m0 = some z) : ab_W l g cX7_advance RX7 3 none [] false (d2 + 1) (.inl none) z.2 0 [(0, .ref l0)] [] m0 := by
  unfold dd_X7_advance at h
  refine ru_aload_n (i := 0) dX7_advance_0 rfl rfl <| ru_aload_n (i := 0) dX7_advance_1 rfl rfl <| ru_aload_n (i := 0) dX7_advance_2 rfl rfl <| ?_
  refine ru_getI h dX7_advance_3 lk_X7_38 ?_
  intro v1 h
  refine ru_iconst dX7_advance_6 kc_i_5 <| ?_
  obtain ⟨_, hrc, h⟩ := Option.bind_eq_some_iff.mp h
  obtain ⟨q2, hq2, h⟩ := Option.bind_eq_some_iff.mp h
  refine ru_callV (tm_X7_runEnd hl0 (by omega) hq2) dX7_advance_7 rfl pm_X7_184 mf_X7_runEnd (ab_rcv_of hrc rfl) rfl rfl (Nat.le_of_ble_eq_true rfl) ?_
  refine ru_putI h dX7_advance_10 lk_X7_41 ?_
  intro m3 h
  refine ru_aload_n (i := 0) dX7_advance_13 rfl rfl <| ?_
  refine ru_getI h dX7_advance_14 lk_X7_41 ?_
  intro v4 h
  refine ru_aload_n (i := 0) dX7_advance_17 rfl rfl <| ?_
  refine ru_getI h dX7_advance_18 lk_X7_35 ?_
  intro v5 h
  refine ru_icmp_ge (tgt := 48) dX7_advance_21 (by decide) (fun hc => ?_) (fun hc => ?_)
  · rw [if_pos hc] at h
    exact ru_pick [0] rfl (tbb_X7_advance_48 hl0 hd   _ _ _ h)
  · rw [if_neg hc] at h
    refine ru_aload_n (i := 0) dX7_advance_24 rfl rfl <| ?_
    refine ru_getI h dX7_advance_25 lk_X7_41 ?_
    intro v6 h
    refine ru_aload_n (i := 0) dX7_advance_28 rfl rfl <| ?_
    refine ru_getR h dX7_advance_29 lk_X7_9 ?_
    intro v7 h
    refine ru_alen 1 h dX7_advance_32 ?_
    intro v8 h
    refine ru_icmp_ge (tgt := 48) dX7_advance_33 (by decide) (fun hc => ?_) (fun hc => ?_)
    · rw [if_pos hc] at h
      exact ru_pick [0] rfl (tbb_X7_advance_48 hl0 hd   _ _ _ h)
    · rw [if_neg hc] at h
      refine ru_aload_n (i := 0) dX7_advance_36 rfl rfl <| ?_
      refine ru_getI h dX7_advance_37 lk_X7_41 ?_
      intro v9 h
      refine ru_aload_n (i := 0) dX7_advance_40 rfl rfl <| ?_
      refine ru_getR h dX7_advance_41 lk_X7_19 ?_
      intro v10 h
      refine ru_alen 1 h dX7_advance_44 ?_
      intro v11 h
      refine ru_icmp_lt (tgt := 70) dX7_advance_45 (by decide) (fun hc => ?_) (fun hc => ?_)
      · rw [if_pos hc] at h
        refine ru_aload_n (i := 0) dX7_advance_70 rfl rfl <| ?_
        refine ru_getR h dX7_advance_71 lk_X7_19 ?_
        intro v12 h
        refine ru_aload_n (i := 0) dX7_advance_74 rfl rfl <| ?_
        refine ru_getI h dX7_advance_75 lk_X7_41 ?_
        intro v13 h
        refine ru_baload h dX7_advance_78 ?_
        intro v14 h
        refine ru_istore_n (i := 1) dX7_advance_79 rfl (by decide) <| ru_aload_n (i := 0) dX7_advance_80 rfl rfl <| ru_iload_n (i := 1) dX7_advance_81 rfl rfl <| ru_iconst dX7_advance_82 kc_i_1 <| ?_
        refine ru_icmp_eq (tgt := 91) dX7_advance_83 (by decide) (fun hc => ?_) (fun hc => ?_)
        · rw [if_pos hc] at h
          exact ru_pick [0, 1] rfl (tbb_X7_advance_91 hl0 hd   _ _ _ _ _ h)
        · rw [if_neg hc] at h
          refine ru_iload_n (i := 1) dX7_advance_86 rfl rfl <| ru_iconst dX7_advance_87 kc_i_2 <| ?_
          refine ru_icmp_ne (tgt := 103) dX7_advance_88 (by decide) (fun hc => ?_) (fun hc => ?_)
          · rw [if_neg hc] at h
            refine ru_aload_n (i := 0) dX7_advance_103 rfl rfl <| ?_
            refine ru_getI h dX7_advance_104 lk_X7_41 ?_
            intro v15 h
            refine ru_iconst dX7_advance_107 kc_i_1 <| ru_iadd dX7_advance_108 <| ?_
            exact ru_pick [0, 1] rfl (tbb_X7_advance_109 hl0 hd   _ _ _ _ _ _ h)
          · rw [if_pos hc] at h
            exact ru_pick [0, 1] rfl (tbb_X7_advance_91 hl0 hd   _ _ _ _ _ h)
      · rw [if_neg hc] at h
        exact ru_pick [0] rfl (tbb_X7_advance_48 hl0 hd   _ _ _ h)
theorem tm_X7_advance {l : Launch} {g : ab_G} (hl0 : l.stackTraces = false) {d : Nat} (hd : 2 ≤ d) {l0 : Nat} {m : ab_Mm} {z : (Unit × ab_Mm)} (h : dd_X7_advance l0 m = some z) : ab_Met l g yX7_advance cX7_advance 3 none [] d [.ref l0] m (.inl none) z.2 := by
  obtain ⟨d2, rfl⟩ : ∃ d2, d = d2 + 1 := ⟨d - 1, by omega⟩
  exact ab_of hl0 (by decide +kernel) (Nat.le_of_ble_eq_true rfl) (fun q => by cases q) rfl (te_X7_advance hl0 hd _ _ _ h)
theorem tbb_X7_isWord_70 {l : Launch} {g : ab_G} (hl0 : l.stackTraces = false) {d2 : Nat} (hd : 5 ≤ d2 + 1)    (m0 : ab_Mm) (z : (Int32 × ab_Mm)) (h : bb_X7_isWord_70   m0 = some z) : ab_W l g cX7_isWord RX7 4 (some .boolean) [] false (d2 + 1) (.inl (some (.int z.1))) z.2 70 [] [] m0 := by
  unfold bb_X7_isWord_70 at h
  refine ru_iconst dX7_isWord_70 kc_i_0 <| ?_
  cases h
  exact ru_ret (v := some (.int _)) ⟨_, rfl, ab_nz0, dX7_isWord_71⟩
theorem tbb_X7_isWord_28 {l : Launch} {g : ab_G} (hl0 : l.stackTraces = false) {d2 : Nat} (hd : 5 ≤ d2 + 1)   : ∀ (n : Nat) (l0 : Nat) (l1 : Nat) (l2 : Int32) (m0 : ab_Mm) (z : (Int32 × ab_Mm)), bb_X7_isWord_28  n l0 l1 l2 m0 = some z → ab_W l g cX7_isWord RX7 4 (some .boolean) [] false (d2 + 1) (.inl (some (.int z.1))) z.2 28 [(0, .ref l0), (1, .ref l1), (2, .int l2)] [] m0 := by
  intro n
  induction n with
  | zero => intro l0 l1 l2 m0 z h; cases h
  | succ n ih =>
    intro l0 l1 l2 m0 z h
    rw [bb_X7_isWord_28] at h
    refine ru_iload_n (i := 2) dX7_isWord_28 rfl rfl <| ru_aload_n (i := 1) dX7_isWord_29 rfl rfl <| ?_
    obtain ⟨_, hrc, h⟩ := Option.bind_eq_some_iff.mp h
    obtain ⟨q1, hq1, h⟩ := Option.bind_eq_some_iff.mp h
    refine ru_callV (tm_J0_length_8abf5 hl0 (by omega) hq1) dX7_isWord_30 rfl pm_X7_187 mf_J0_length_8abf5 (ab_rcv_s hrc) rfl rfl (Nat.le_of_ble_eq_true rfl) ?_
    refine ru_icmp_ge (tgt := 78) dX7_isWord_33 (by decide) (fun hc => ?_) (fun hc => ?_)
    · rw [if_pos hc] at h
      refine ru_iconst dX7_isWord_78 kc_i_1 <| ?_
      cases h
      exact ru_ret (v := some (.int _)) ⟨_, rfl, ab_nz1, dX7_isWord_79⟩
    · rw [if_neg hc] at h
      refine ru_aload_n (i := 0) dX7_isWord_36 rfl rfl <| ?_
      refine ru_getI h dX7_isWord_37 lk_X7_41 ?_
      intro v2 h
      refine ru_iload_n (i := 2) dX7_isWord_40 rfl rfl <| ru_iadd dX7_isWord_41 <| ru_istore_n (i := 3) dX7_isWord_42 rfl (by decide) <| ru_iload_n (i := 3) dX7_isWord_43 rfl rfl <| ?_
      refine ru_if_lt (tgt := 70) dX7_isWord_44 (by decide) (fun hc => ?_) (fun hc => ?_)
      · rw [if_pos hc] at h
        exact ru_pick [] rfl (tbb_X7_isWord_70 hl0 hd    _ _ h)
      · rw [if_neg hc] at h
        refine ru_iload_n (i := 3) dX7_isWord_47 rfl rfl <| ru_aload_n (i := 0) dX7_isWord_48 rfl rfl <| ?_
        refine ru_getR h dX7_isWord_49 lk_X7_9 ?_
        intro v3 h
        refine ru_alen 1 h dX7_isWord_52 ?_
        intro v4 h
        refine ru_icmp_ge (tgt := 70) dX7_isWord_53 (by decide) (fun hc => ?_) (fun hc => ?_)
        · rw [if_pos hc] at h
          exact ru_pick [] rfl (tbb_X7_isWord_70 hl0 hd    _ _ h)
        · rw [if_neg hc] at h
          refine ru_aload_n (i := 0) dX7_isWord_56 rfl rfl <| ?_
          refine ru_getR h dX7_isWord_57 lk_X7_9 ?_
          intro v5 h
          refine ru_iload_n (i := 3) dX7_isWord_60 rfl rfl <| ?_
          refine ru_baload h dX7_isWord_61 ?_
          intro v6 h
          refine ru_aload_n (i := 1) dX7_isWord_62 rfl rfl <| ru_iload_n (i := 2) dX7_isWord_63 rfl rfl <| ?_
          obtain ⟨_, hrc, h⟩ := Option.bind_eq_some_iff.mp h
          obtain ⟨q7, hq7, h⟩ := Option.bind_eq_some_iff.mp h
          refine ru_callV (tm_J0_charAt_5068e hl0 (by omega) hq7) dX7_isWord_64 rfl pm_X7_191 mf_J0_charAt_5068e (ab_rcv_s hrc) rfl rfl (Nat.le_of_ble_eq_true rfl) ?_
          refine ru_icmp_eq (tgt := 72) dX7_isWord_67 (by decide) (fun hc => ?_) (fun hc => ?_)
          · rw [if_pos hc] at h
            refine ru_iinc dX7_isWord_72 (by decide) rfl (ab_inc kc_i_1) <| ru_goto (tgt := 28) dX7_isWord_75 (by decide) <| ?_
            exact ru_pick [0, 1, 2] rfl (ih _ _ _ _ _ h)
          · rw [if_neg hc] at h
            exact ru_pick [] rfl (tbb_X7_isWord_70 hl0 hd    _ _ h)
theorem tbb_X7_isWord_24 {l : Launch} {g : ab_G} (hl0 : l.stackTraces = false) {d2 : Nat} (hd : 5 ≤ d2 + 1)    (m0 : ab_Mm) (z : (Int32 × ab_Mm)) (h : bb_X7_isWord_24   m0 = some z) : ab_W l g cX7_isWord RX7 4 (some .boolean) [] false (d2 + 1) (.inl (some (.int z.1))) z.2 24 [] [] m0 := by
  unfold bb_X7_isWord_24 at h
  refine ru_iconst dX7_isWord_24 kc_i_0 <| ?_
  cases h
  exact ru_ret (v := some (.int _)) ⟨_, rfl, ab_nz0, dX7_isWord_25⟩
theorem te_X7_isWord {l : Launch} {g : ab_G} (hl0 : l.stackTraces = false) {d2 : Nat} (hd : 5 ≤ d2 + 1)   (l0 : Nat) (l1 : Nat) (m0 : ab_Mm) (z : (Int32 × ab_Mm)) (h : dd_X7_isWord  l0 l1 m0 = some z) : ab_W l g cX7_isWord RX7 4 (some .boolean) [] false (d2 + 1) (.inl (some (.int z.1))) z.2 0 [(0, .ref l0), (1, .ref l1)] [] m0 := by
  unfold dd_X7_isWord at h
  refine ru_aload_n (i := 0) dX7_isWord_0 rfl rfl <| ?_
  refine ru_getI h dX7_isWord_1 lk_X7_44 ?_
  intro v1 h
  refine ru_iconst dX7_isWord_4 kc_i_1 <| ?_
  refine ru_icmp_ne (tgt := 24) dX7_isWord_5 (by decide) (fun hc => ?_) (fun hc => ?_)
  · rw [if_neg hc] at h
    exact ru_pick [] rfl (tbb_X7_isWord_24 hl0 hd    _ _ h)
  · rw [if_pos hc] at h
    refine ru_aload_n (i := 0) dX7_isWord_8 rfl rfl <| ?_
    refine ru_getI h dX7_isWord_9 lk_X7_38 ?_
    intro v2 h
    refine ru_aload_n (i := 0) dX7_isWord_12 rfl rfl <| ?_
    refine ru_getI h dX7_isWord_13 lk_X7_41 ?_
    intro v3 h
    refine ru_isub dX7_isWord_16 <| ru_aload_n (i := 1) dX7_isWord_17 rfl rfl <| ?_
    obtain ⟨_, hrc, h⟩ := Option.bind_eq_some_iff.mp h
    obtain ⟨q4, hq4, h⟩ := Option.bind_eq_some_iff.mp h
    refine ru_callV (tm_J0_length_8abf5 hl0 (by omega) hq4) dX7_isWord_18 rfl pm_X7_187 mf_J0_length_8abf5 (ab_rcv_s hrc) rfl rfl (Nat.le_of_ble_eq_true rfl) ?_
    refine ru_icmp_eq (tgt := 26) dX7_isWord_21 (by decide) (fun hc => ?_) (fun hc => ?_)
    · rw [if_pos hc] at h
      refine ru_iconst dX7_isWord_26 kc_i_0 <| ru_istore_n (i := 2) dX7_isWord_27 rfl (by decide) <| ?_
      exact ru_pick [0, 1, 2] rfl (tbb_X7_isWord_28 hl0 hd   _ _ _ _ _ _ h)
    · rw [if_neg hc] at h
      exact ru_pick [] rfl (tbb_X7_isWord_24 hl0 hd    _ _ h)
theorem tm_X7_isWord {l : Launch} {g : ab_G} (hl0 : l.stackTraces = false) {d : Nat} (hd : 5 ≤ d) {l0 : Nat} {l1 : Nat} {m : ab_Mm} {z : (Int32 × ab_Mm)} (h : dd_X7_isWord l0 l1 m = some z) : ab_Met l g yX7_isWord cX7_isWord 4 (some .boolean) [] d [.ref l0, .ref l1] m (.inl (some (.int z.1))) z.2 := by
  obtain ⟨d2, rfl⟩ : ∃ d2, d = d2 + 1 := ⟨d - 1, by omega⟩
  exact ab_of hl0 (by decide +kernel) (Nat.le_of_ble_eq_true rfl) (fun q => by cases q) rfl (te_X7_isWord hl0 hd _ _ _ _ h)
theorem te_X7_fail {l : Launch} {g : ab_G} (hl0 : l.stackTraces = false) {d2 : Nat} (hd : 1 ≤ d2 + 1)   (l0 : Nat) (l1 : Int32) (m0 : ab_Mm) (z : (Int32 × ab_Mm)) (h : dd_X7_fail  l0 l1 m0 = some z) : ab_W l g cX7_fail RX7 2 (some .boolean) [] false (d2 + 1) (.inl (some (.int z.1))) z.2 0 [(0, .ref l0), (1, .int l1)] [] m0 := by
  unfold dd_X7_fail at h
  refine ru_aload_n (i := 0) dX7_fail_0 rfl rfl <| ru_iload_n (i := 1) dX7_fail_1 rfl rfl <| ?_
  refine ru_putI h dX7_fail_2 lk_X7_32 ?_
  intro m1 h
  refine ru_aload_n (i := 0) dX7_fail_5 rfl rfl <| ru_aload_n (i := 0) dX7_fail_6 rfl rfl <| ?_
  refine ru_getI h dX7_fail_7 lk_X7_41 ?_
  intro v2 h
  refine ru_putI h dX7_fail_10 lk_X7_29 ?_
  intro m3 h
  refine ru_iconst dX7_fail_13 kc_i_0 <| ?_
  cases h
  exact ru_ret (v := some (.int _)) ⟨_, rfl, ab_nz0, dX7_fail_14⟩
theorem tm_X7_fail {l : Launch} {g : ab_G} (hl0 : l.stackTraces = false) {d : Nat} (hd : 1 ≤ d) {l0 : Nat} {l1 : Int32} {m : ab_Mm} {z : (Int32 × ab_Mm)} (h : dd_X7_fail l0 l1 m = some z) : ab_Met l g yX7_fail cX7_fail 2 (some .boolean) [] d [.ref l0, .int l1] m (.inl (some (.int z.1))) z.2 := by
  obtain ⟨d2, rfl⟩ : ∃ d2, d = d2 + 1 := ⟨d - 1, by omega⟩
  exact ab_of hl0 (by decide +kernel) (Nat.le_of_ble_eq_true rfl) (fun q => by cases q) rfl (te_X7_fail hl0 hd _ _ _ _ h)
theorem te_X7_opens {l : Launch} {g : ab_G} (hl0 : l.stackTraces = false) {d2 : Nat} (hd : 3 ≤ d2 + 1)   (l0 : Nat) (l1 : Nat) (m0 : ab_Mm) (z : (Int32 × ab_Mm)) (h : dd_X7_opens  l0 l1 m0 = some z) : ab_W l g cX7_opens RX7 2 (some .boolean) [] false (d2 + 1) (.inl (some (.int z.1))) z.2 0 [(0, .ref l0), (1, .ref l1)] [] m0 := by
  unfold dd_X7_opens at h
  refine ru_aload_n (i := 1) dX7_opens_0 rfl rfl <| ?_
  obtain ⟨_, hrc, h⟩ := Option.bind_eq_some_iff.mp h
  obtain ⟨q1, hq1, h⟩ := Option.bind_eq_some_iff.mp h
  refine ru_callV (tm_X10_isFull hl0 (by omega) hq1) dX7_opens_1 rfl pm_X7_152 mf_X10_isFull (ab_rcv_of hrc rfl) rfl rfl (Nat.le_of_ble_eq_true rfl) ?_
  refine ru_if_eq (tgt := 13) dX7_opens_4 (by decide) (fun hc => ?_) (fun hc => ?_)
  · rw [if_pos hc] at h
    refine ru_aload_n (i := 0) dX7_opens_13 rfl rfl <| ?_
    obtain ⟨_, hrc, h⟩ := Option.bind_eq_some_iff.mp h
    obtain ⟨q2, hq2, h⟩ := Option.bind_eq_some_iff.mp h
    refine ru_callV (tm_X7_advance hl0 (by omega) hq2) dX7_opens_14 rfl pm_X7_66 mf_X7_advance (ab_rcv_of hrc rfl) rfl rfl (Nat.le_of_ble_eq_true rfl) ?_
    refine ru_iconst dX7_opens_17 kc_i_1 <| ?_
    cases h
    exact ru_ret (v := some (.int _)) ⟨_, rfl, ab_nz1, dX7_opens_18⟩
  · rw [if_neg hc] at h
    refine ru_aload_n (i := 0) dX7_opens_7 rfl rfl <| ru_iconst dX7_opens_8 kc_i_4 <| ?_
    obtain ⟨_, hrc, h⟩ := Option.bind_eq_some_iff.mp h
    obtain ⟨q3, hq3, h⟩ := Option.bind_eq_some_iff.mp h
    refine ru_callV (tm_X7_fail hl0 (by omega) hq3) dX7_opens_9 rfl pm_X7_141 mf_X7_fail (ab_rcv_of hrc rfl) rfl rfl (Nat.le_of_ble_eq_true rfl) ?_
    rcases ab_iff h with ⟨hc, h⟩ | ⟨hc, h⟩
    · cases h
    cases h
    exact ru_ret (v := some (.int _)) ⟨_, rfl, congrArg Value.int (Classical.not_not.mp hc), dX7_opens_12⟩
theorem tm_X7_opens {l : Launch} {g : ab_G} (hl0 : l.stackTraces = false) {d : Nat} (hd : 3 ≤ d) {l0 : Nat} {l1 : Nat} {m : ab_Mm} {z : (Int32 × ab_Mm)} (h : dd_X7_opens l0 l1 m = some z) : ab_Met l g yX7_opens cX7_opens 2 (some .boolean) [] d [.ref l0, .ref l1] m (.inl (some (.int z.1))) z.2 := by
  obtain ⟨d2, rfl⟩ : ∃ d2, d = d2 + 1 := ⟨d - 1, by omega⟩
  exact ab_of hl0 (by decide +kernel) (Nat.le_of_ble_eq_true rfl) (fun q => by cases q) rfl (te_X7_opens hl0 hd _ _ _ _ h)
theorem tbb_X7_number_49 {l : Launch} {g : ab_G} (hl0 : l.stackTraces = false) {d2 : Nat} (hd : 1 ≤ d2 + 1)   (l1 : Int32) (m0 : ab_Mm) (z : (Int32 × ab_Mm)) (h : bb_X7_number_49  l1 m0 = some z) : ab_W l g cX7_number RX7 3 (some .int) [] false (d2 + 1) (.inl (some (.int z.1))) z.2 49 [(1, .int l1)] [] m0 := by
  unfold bb_X7_number_49 at h
  refine ru_iload_n (i := 1) dX7_number_49 rfl rfl <| ?_
  cases h
  exact ru_ret (v := some (.int _)) ⟨_, rfl, rfl, dX7_number_50⟩
theorem tbb_X7_number_11 {l : Launch} {g : ab_G} (hl0 : l.stackTraces = false) {d2 : Nat} (hd : 1 ≤ d2 + 1)   : ∀ (n : Nat) (l0 : Nat) (l1 : Int32) (l2 : Int32) (m0 : ab_Mm) (z : (Int32 × ab_Mm)), bb_X7_number_11  n l0 l1 l2 m0 = some z → ab_W l g cX7_number RX7 3 (some .int) [] false (d2 + 1) (.inl (some (.int z.1))) z.2 11 [(0, .ref l0), (1, .int l1), (2, .int l2)] [] m0 := by
  intro n
  induction n with
  | zero => intro l0 l1 l2 m0 z h; cases h
  | succ n ih =>
    intro l0 l1 l2 m0 z h
    rw [bb_X7_number_11] at h
    refine ru_iload_n (i := 2) dX7_number_11 rfl rfl <| ru_aload_n (i := 0) dX7_number_12 rfl rfl <| ?_
    refine ru_getI h dX7_number_13 lk_X7_38 ?_
    intro v1 h
    refine ru_icmp_ge (tgt := 49) dX7_number_16 (by decide) (fun hc => ?_) (fun hc => ?_)
    · rw [if_pos hc] at h
      exact ru_pick [1] rfl (tbb_X7_number_49 hl0 hd   _ _ _ h)
    · rw [if_neg hc] at h
      refine ru_iload_n (i := 2) dX7_number_19 rfl rfl <| ru_aload_n (i := 0) dX7_number_20 rfl rfl <| ?_
      refine ru_getR h dX7_number_21 lk_X7_9 ?_
      intro v2 h
      refine ru_alen 1 h dX7_number_24 ?_
      intro v3 h
      refine ru_icmp_ge (tgt := 49) dX7_number_25 (by decide) (fun hc => ?_) (fun hc => ?_)
      · rw [if_pos hc] at h
        exact ru_pick [1] rfl (tbb_X7_number_49 hl0 hd   _ _ _ h)
      · rw [if_neg hc] at h
        refine ru_iload_n (i := 1) dX7_number_28 rfl rfl <| ru_bipush dX7_number_29 kc_b_10 <| ru_imul dX7_number_31 <| ru_aload_n (i := 0) dX7_number_32 rfl rfl <| ?_
        refine ru_getR h dX7_number_33 lk_X7_9 ?_
        intro v4 h
        refine ru_iload_n (i := 2) dX7_number_36 rfl rfl <| ?_
        refine ru_baload h dX7_number_37 ?_
        intro v5 h
        refine ru_iadd dX7_number_38 <| ru_bipush dX7_number_39 kc_b_48 <| ru_isub dX7_number_41 <| ru_istore_n (i := 1) dX7_number_42 rfl (by decide) <| ru_iinc dX7_number_43 (by decide) rfl (ab_inc kc_i_1) <| ru_goto (tgt := 11) dX7_number_46 (by decide) <| ?_
        exact ru_pick [0, 1, 2] rfl (ih _ _ _ _ _ h)
theorem te_X7_number {l : Launch} {g : ab_G} (hl0 : l.stackTraces = false) {d2 : Nat} (hd : 1 ≤ d2 + 1)   (l0 : Nat) (m0 : ab_Mm) (z : (Int32 × ab_Mm)) (h : dd_X7_number  l0 m0 = some z) : ab_W l g cX7_number RX7 3 (some .int) [] false (d2 + 1) (.inl (some (.int z.1))) z.2 0 [(0, .ref l0)] [] m0 := by
  unfold dd_X7_number at h
  refine ru_iconst dX7_number_0 kc_i_0 <| ru_istore_n (i := 1) dX7_number_1 rfl (by decide) <| ru_iconst dX7_number_2 kc_i_0 <| ru_aload_n (i := 0) dX7_number_3 rfl rfl <| ?_
  refine ru_getI h dX7_number_4 lk_X7_41 ?_
  intro v1 h
  refine ru_mmax dX7_number_7 ⟨pm_X7_59, pq_max_s, pq_ini, pq_max_c⟩ (Nat.le_of_ble_eq_true rfl) <| ru_istore_n (i := 2) dX7_number_10 rfl (by decide) <| ?_
  exact ru_pick [0, 1, 2] rfl (tbb_X7_number_11 hl0 hd   _ _ _ _ _ _ h)
theorem tm_X7_number {l : Launch} {g : ab_G} (hl0 : l.stackTraces = false) {d : Nat} (hd : 1 ≤ d) {l0 : Nat} {m : ab_Mm} {z : (Int32 × ab_Mm)} (h : dd_X7_number l0 m = some z) : ab_Met l g yX7_number cX7_number 3 (some .int) [] d [.ref l0] m (.inl (some (.int z.1))) z.2 := by
  obtain ⟨d2, rfl⟩ : ∃ d2, d = d2 + 1 := ⟨d - 1, by omega⟩
  exact ab_of hl0 (by decide +kernel) (Nat.le_of_ble_eq_true rfl) (fun q => by cases q) rfl (te_X7_number hl0 hd _ _ _ h)
theorem tbb_X7_puts_33 {l : Launch} {g : ab_G} (hl0 : l.stackTraces = false) {d2 : Nat} (hd : 3 ≤ d2 + 1)   (l0 : Nat) (m0 : ab_Mm) (z : (Int32 × ab_Mm)) (h : bb_X7_puts_33  l0 m0 = some z) : ab_W l g cX7_puts RX7 6 (some .boolean) [] false (d2 + 1) (.inl (some (.int z.1))) z.2 33 [(0, .ref l0)] [] m0 := by
  unfold bb_X7_puts_33 at h
  refine ru_aload_n (i := 0) dX7_puts_33 rfl rfl <| ru_iconst dX7_puts_34 kc_i_3 <| ?_
  obtain ⟨_, hrc, h⟩ := Option.bind_eq_some_iff.mp h
  obtain ⟨q1, hq1, h⟩ := Option.bind_eq_some_iff.mp h
  refine ru_callV (tm_X7_fail hl0 (by omega) hq1) dX7_puts_35 rfl pm_X7_141 mf_X7_fail (ab_rcv_of hrc rfl) rfl rfl (Nat.le_of_ble_eq_true rfl) ?_
  rcases ab_iff h with ⟨hc, h⟩ | ⟨hc, h⟩
  · cases h
  cases h
  exact ru_ret (v := some (.int _)) ⟨_, rfl, congrArg Value.int (Classical.not_not.mp hc), dX7_puts_38⟩
theorem te_X7_puts {l : Launch} {g : ab_G} (hl0 : l.stackTraces = false) {d2 : Nat} (hd : 3 ≤ d2 + 1)   (l0 : Nat) (l1 : Nat) (l2 : Int32) (l3 : Int32) (l4 : Int32) (m0 : ab_Mm) (z : (Int32 × ab_Mm)) (h : dd_X7_puts  l0 l1 l2 l3 l4 m0 = some z) : ab_W l g cX7_puts RX7 6 (some .boolean) [] false (d2 + 1) (.inl (some (.int z.1))) z.2 0 [(0, .ref l0), (1, .ref l1), (2, .int l2), (3, .int l3), (4, .int l4)] [] m0 := by
  unfold dd_X7_puts at h
  refine ru_aload_n (i := 0) dX7_puts_0 rfl rfl <| ?_
  refine ru_getI h dX7_puts_1 lk_X7_44 ?_
  intro v1 h
  refine ru_iconst dX7_puts_4 kc_i_2 <| ?_
  refine ru_icmp_eq (tgt := 14) dX7_puts_5 (by decide) (fun hc => ?_) (fun hc => ?_)
  · rw [if_pos hc] at h
    refine ru_aload_n (i := 0) dX7_puts_14 rfl rfl <| ?_
    obtain ⟨_, hrc, h⟩ := Option.bind_eq_some_iff.mp h
    obtain ⟨q2, hq2, h⟩ := Option.bind_eq_some_iff.mp h
    refine ru_callV (tm_X7_number hl0 (by omega) hq2) dX7_puts_15 rfl pm_X7_155 mf_X7_number (ab_rcv_of hrc rfl) rfl rfl (Nat.le_of_ble_eq_true rfl) ?_
    refine ru_istore dX7_puts_18 (by decide) <| ru_iload dX7_puts_20 rfl <| ru_iload_n (i := 3) dX7_puts_22 rfl rfl <| ?_
    refine ru_icmp_lt (tgt := 33) dX7_puts_23 (by decide) (fun hc => ?_) (fun hc => ?_)
    · rw [if_pos hc] at h
      exact ru_pick [0] rfl (tbb_X7_puts_33 hl0 hd   _ _ _ h)
    · rw [if_neg hc] at h
      refine ru_iload dX7_puts_26 rfl <| ru_iload dX7_puts_28 rfl <| ?_
      refine ru_icmp_le (tgt := 39) dX7_puts_30 (by decide) (fun hc => ?_) (fun hc => ?_)
      · rw [if_pos hc] at h
        refine ru_aload_n (i := 1) dX7_puts_39 rfl rfl <| ru_aload_n (i := 1) dX7_puts_40 rfl rfl <| ?_
        refine ru_getI h dX7_puts_41 lk_X7_144 ?_
        intro v3 h
        refine ru_iload_n (i := 2) dX7_puts_44 rfl rfl <| ru_iload dX7_puts_45 rfl <| ?_
        obtain ⟨_, hrc, h⟩ := Option.bind_eq_some_iff.mp h
        obtain ⟨q4, hq4, h⟩ := Option.bind_eq_some_iff.mp h
        refine ru_callV (tm_X10_set hl0 (by omega) hq4) dX7_puts_47 rfl pm_X7_159 mf_X10_set (ab_rcv_of hrc rfl) rfl rfl (Nat.le_of_ble_eq_true rfl) ?_
        refine ru_aload_n (i := 0) dX7_puts_50 rfl rfl <| ?_
        obtain ⟨_, hrc, h⟩ := Option.bind_eq_some_iff.mp h
        obtain ⟨q5, hq5, h⟩ := Option.bind_eq_some_iff.mp h
        refine ru_callV (tm_X7_advance hl0 (by omega) hq5) dX7_puts_51 rfl pm_X7_66 mf_X7_advance (ab_rcv_of hrc rfl) rfl rfl (Nat.le_of_ble_eq_true rfl) ?_
        refine ru_iconst dX7_puts_54 kc_i_1 <| ?_
        cases h
        exact ru_ret (v := some (.int _)) ⟨_, rfl, ab_nz1, dX7_puts_55⟩
      · rw [if_neg hc] at h
        exact ru_pick [0] rfl (tbb_X7_puts_33 hl0 hd   _ _ _ h)
  · rw [if_neg hc] at h
    refine ru_aload_n (i := 0) dX7_puts_8 rfl rfl <| ru_iconst dX7_puts_9 kc_i_1 <| ?_
    obtain ⟨_, hrc, h⟩ := Option.bind_eq_some_iff.mp h
    obtain ⟨q6, hq6, h⟩ := Option.bind_eq_some_iff.mp h
    refine ru_callV (tm_X7_fail hl0 (by omega) hq6) dX7_puts_10 rfl pm_X7_141 mf_X7_fail (ab_rcv_of hrc rfl) rfl rfl (Nat.le_of_ble_eq_true rfl) ?_
    rcases ab_iff h with ⟨hc, h⟩ | ⟨hc, h⟩
    · cases h
    cases h
    exact ru_ret (v := some (.int _)) ⟨_, rfl, congrArg Value.int (Classical.not_not.mp hc), dX7_puts_13⟩
theorem tm_X7_puts {l : Launch} {g : ab_G} (hl0 : l.stackTraces = false) {d : Nat} (hd : 3 ≤ d) {l0 : Nat} {l1 : Nat} {l2 : Int32} {l3 : Int32} {l4 : Int32} {m : ab_Mm} {z : (Int32 × ab_Mm)} (h : dd_X7_puts l0 l1 l2 l3 l4 m = some z) : ab_Met l g yX7_puts cX7_puts 6 (some .boolean) [] d [.ref l0, .ref l1, .int l2, .int l3, .int l4] m (.inl (some (.int z.1))) z.2 := by
  obtain ⟨d2, rfl⟩ : ∃ d2, d = d2 + 1 := ⟨d - 1, by omega⟩
  exact ab_of hl0 (by decide +kernel) (Nat.le_of_ble_eq_true rfl) (fun q => by cases q) rfl (te_X7_puts hl0 hd _ _ _ _ _ _ _ h)
theorem te_X7_keeps {l : Launch} {g : ab_G} (hl0 : l.stackTraces = false) {d2 : Nat} (hd : 3 ≤ d2 + 1)   (l0 : Nat) (l1 : Nat) (m0 : ab_Mm) (z : (Int32 × ab_Mm)) (h : dd_X7_keeps  l0 l1 m0 = some z) : ab_W l g cX7_keeps RX7 2 (some .boolean) [] false (d2 + 1) (.inl (some (.int z.1))) z.2 0 [(0, .ref l0), (1, .ref l1)] [] m0 := by
  unfold dd_X7_keeps at h
  refine ru_aload_n (i := 1) dX7_keeps_0 rfl rfl <| ru_aload_n (i := 1) dX7_keeps_1 rfl rfl <| ?_
  refine ru_getI h dX7_keeps_2 lk_X7_144 ?_
  intro v1 h
  obtain ⟨_, hrc, h⟩ := Option.bind_eq_some_iff.mp h
  obtain ⟨q2, hq2, h⟩ := Option.bind_eq_some_iff.mp h
  refine ru_callV (tm_X10_insertRow hl0 (by omega) hq2) dX7_keeps_5 rfl pm_X7_163 mf_X10_insertRow (ab_rcv_of hrc rfl) rfl rfl (Nat.le_of_ble_eq_true rfl) ?_
  refine ru_iconst dX7_keeps_8 kc_i_1 <| ?_
  cases h
  exact ru_ret (v := some (.int _)) ⟨_, rfl, ab_nz1, dX7_keeps_9⟩
theorem tm_X7_keeps {l : Launch} {g : ab_G} (hl0 : l.stackTraces = false) {d : Nat} (hd : 3 ≤ d) {l0 : Nat} {l1 : Nat} {m : ab_Mm} {z : (Int32 × ab_Mm)} (h : dd_X7_keeps l0 l1 m = some z) : ab_Met l g yX7_keeps cX7_keeps 2 (some .boolean) [] d [.ref l0, .ref l1] m (.inl (some (.int z.1))) z.2 := by
  obtain ⟨d2, rfl⟩ : ∃ d2, d = d2 + 1 := ⟨d - 1, by omega⟩
  exact ab_of hl0 (by decide +kernel) (Nat.le_of_ble_eq_true rfl) (fun q => by cases q) rfl (te_X7_keeps hl0 hd _ _ _ _ h)
theorem tbb_X7_reservation_125 {l : Launch} {g : ab_G} (hl0 : l.stackTraces = false) {d2 : Nat} (hd : 4 ≤ d2 + 1)   (s0 : Int32) (m0 : ab_Mm) (z : (Int32 × ab_Mm)) (h : bb_X7_reservation_125  s0 m0 = some z) : ab_W l g cX7_reservation RX7 2 (some .boolean) [] false (d2 + 1) (.inl (some (.int z.1))) z.2 125 [] [.int s0] m0 := by
  unfold bb_X7_reservation_125 at h
  rcases ab_iff h with ⟨hc, h⟩ | ⟨hc, h⟩
  · cases h
  cases h
  exact ru_ret (v := some (.int _)) ⟨_, rfl, congrArg Value.int (Classical.not_not.mp hc), dX7_reservation_125⟩
theorem tbb_X7_reservation_124 {l : Launch} {g : ab_G} (hl0 : l.stackTraces = false) {d2 : Nat} (hd : 4 ≤ d2 + 1)    (m0 : ab_Mm) (z : (Int32 × ab_Mm)) (h : bb_X7_reservation_124   m0 = some z) : ab_W l g cX7_reservation RX7 2 (some .boolean) [] false (d2 + 1) (.inl (some (.int z.1))) z.2 124 [] [] m0 := by
  unfold bb_X7_reservation_124 at h
  refine ru_iconst dX7_reservation_124 kc_i_0 <| ?_
  exact ru_pick [] rfl (tbb_X7_reservation_125 hl0 hd   _ _ _ h)
theorem te_X7_reservation {l : Launch} {g : ab_G} (hl0 : l.stackTraces = false) {d2 : Nat} (hd : 4 ≤ d2 + 1)   (l0 : Nat) (l1 : Nat) (m0 : ab_Mm) (z : (Int32 × ab_Mm)) (h : dd_X7_reservation  l0 l1 m0 = some z) : ab_W l g cX7_reservation RX7 2 (some .boolean) [] false (d2 + 1) (.inl (some (.int z.1))) z.2 0 [(0, .ref l0), (1, .ref l1)] [] m0 := by
  unfold dd_X7_reservation at h
  refine ru_aload_n (i := 0) dX7_reservation_0 rfl rfl <| ru_aload_n (i := 1) dX7_reservation_1 rfl rfl <| ?_
  obtain ⟨_, hrc, h⟩ := Option.bind_eq_some_iff.mp h
  obtain ⟨q1, hq1, h⟩ := Option.bind_eq_some_iff.mp h
  refine ru_callV (tm_X7_opens hl0 (by omega) hq1) dX7_reservation_2 rfl pm_X7_87 mf_X7_opens (ab_rcv_of hrc rfl) rfl rfl (Nat.le_of_ble_eq_true rfl) ?_
  refine ru_if_eq (tgt := 124) dX7_reservation_5 (by decide) (fun hc => ?_) (fun hc => ?_)
  · rw [if_pos hc] at h
    exact ru_pick [] rfl (tbb_X7_reservation_124 hl0 hd    _ _ h)
  · rw [if_neg hc] at h
    refine ru_aload_n (i := 0) dX7_reservation_8 rfl rfl <| ru_aload_n (i := 1) dX7_reservation_9 rfl rfl <| ru_iconst dX7_reservation_10 kc_i_0 <| ru_iconst dX7_reservation_11 kc_i_0 <| ru_aload_n (i := 0) dX7_reservation_12 rfl rfl <| ?_
    refine ru_getR h dX7_reservation_13 lk_X7_25 ?_
    intro v2 h
    refine ru_getR h dX7_reservation_16 lk_X7_105 ?_
    intro v3 h
    refine ru_getI h dX7_reservation_19 lk_X7_144 ?_
    intro v4 h
    refine ru_iconst dX7_reservation_22 kc_i_1 <| ru_isub dX7_reservation_23 <| ?_
    obtain ⟨_, hrc, h⟩ := Option.bind_eq_some_iff.mp h
    obtain ⟨q5, hq5, h⟩ := Option.bind_eq_some_iff.mp h
    refine ru_callV (tm_X7_puts hl0 (by omega) hq5) dX7_reservation_24 rfl pm_X7_91 mf_X7_puts (ab_rcv_of hrc rfl) rfl rfl (Nat.le_of_ble_eq_true rfl) ?_
    refine ru_if_eq (tgt := 124) dX7_reservation_27 (by decide) (fun hc => ?_) (fun hc => ?_)
    · rw [if_pos hc] at h
      exact ru_pick [] rfl (tbb_X7_reservation_124 hl0 hd    _ _ h)
    · rw [if_neg hc] at h
      refine ru_aload_n (i := 0) dX7_reservation_30 rfl rfl <| ru_aload_n (i := 1) dX7_reservation_31 rfl rfl <| ru_iconst dX7_reservation_32 kc_i_1 <| ru_iconst dX7_reservation_33 kc_i_0 <| ru_aload_n (i := 0) dX7_reservation_34 rfl rfl <| ?_
      refine ru_getR h dX7_reservation_35 lk_X7_25 ?_
      intro v6 h
      refine ru_getR h dX7_reservation_38 lk_X7_100 ?_
      intro v7 h
      refine ru_getI h dX7_reservation_41 lk_X7_144 ?_
      intro v8 h
      refine ru_iconst dX7_reservation_44 kc_i_1 <| ru_isub dX7_reservation_45 <| ?_
      obtain ⟨_, hrc, h⟩ := Option.bind_eq_some_iff.mp h
      obtain ⟨q9, hq9, h⟩ := Option.bind_eq_some_iff.mp h
      refine ru_callV (tm_X7_puts hl0 (by omega) hq9) dX7_reservation_46 rfl pm_X7_91 mf_X7_puts (ab_rcv_of hrc rfl) rfl rfl (Nat.le_of_ble_eq_true rfl) ?_
      refine ru_if_eq (tgt := 124) dX7_reservation_49 (by decide) (fun hc => ?_) (fun hc => ?_)
      · rw [if_pos hc] at h
        exact ru_pick [] rfl (tbb_X7_reservation_124 hl0 hd    _ _ h)
      · rw [if_neg hc] at h
        refine ru_aload_n (i := 0) dX7_reservation_52 rfl rfl <| ru_aload_n (i := 1) dX7_reservation_53 rfl rfl <| ru_iconst dX7_reservation_54 kc_i_2 <| ru_iconst dX7_reservation_55 kc_i_1 <| ru_bipush dX7_reservation_56 kc_b_9 <| ?_
        obtain ⟨_, hrc, h⟩ := Option.bind_eq_some_iff.mp h
        obtain ⟨q10, hq10, h⟩ := Option.bind_eq_some_iff.mp h
        refine ru_callV (tm_X7_puts hl0 (by omega) hq10) dX7_reservation_58 rfl pm_X7_91 mf_X7_puts (ab_rcv_of hrc rfl) rfl rfl (Nat.le_of_ble_eq_true rfl) ?_
        refine ru_if_eq (tgt := 124) dX7_reservation_61 (by decide) (fun hc => ?_) (fun hc => ?_)
        · rw [if_pos hc] at h
          exact ru_pick [] rfl (tbb_X7_reservation_124 hl0 hd    _ _ h)
        · rw [if_neg hc] at h
          refine ru_aload_n (i := 0) dX7_reservation_64 rfl rfl <| ru_aload_n (i := 1) dX7_reservation_65 rfl rfl <| ru_iconst dX7_reservation_66 kc_i_3 <| ru_iconst dX7_reservation_67 kc_i_0 <| ru_sipush dX7_reservation_68 kc_s_9998 <| ?_
          obtain ⟨_, hrc, h⟩ := Option.bind_eq_some_iff.mp h
          obtain ⟨q11, hq11, h⟩ := Option.bind_eq_some_iff.mp h
          refine ru_callV (tm_X7_puts hl0 (by omega) hq11) dX7_reservation_71 rfl pm_X7_91 mf_X7_puts (ab_rcv_of hrc rfl) rfl rfl (Nat.le_of_ble_eq_true rfl) ?_
          refine ru_if_eq (tgt := 124) dX7_reservation_74 (by decide) (fun hc => ?_) (fun hc => ?_)
          · rw [if_pos hc] at h
            exact ru_pick [] rfl (tbb_X7_reservation_124 hl0 hd    _ _ h)
          · rw [if_neg hc] at h
            refine ru_aload_n (i := 0) dX7_reservation_77 rfl rfl <| ru_aload_n (i := 1) dX7_reservation_78 rfl rfl <| ru_iconst dX7_reservation_79 kc_i_4 <| ru_aload_n (i := 1) dX7_reservation_80 rfl rfl <| ru_aload_n (i := 1) dX7_reservation_81 rfl rfl <| ?_
            refine ru_getI h dX7_reservation_82 lk_X7_144 ?_
            intro v12 h
            refine ru_iconst dX7_reservation_85 kc_i_3 <| ?_
            obtain ⟨_, hrc, h⟩ := Option.bind_eq_some_iff.mp h
            obtain ⟨q13, hq13, h⟩ := Option.bind_eq_some_iff.mp h
            refine ru_callV (tm_X10_get hl0 (by omega) hq13) dX7_reservation_86 rfl pm_X7_149 mf_X10_get (ab_rcv_of hrc rfl) rfl rfl (Nat.le_of_ble_eq_true rfl) ?_
            refine ru_iconst dX7_reservation_89 kc_i_1 <| ru_iadd dX7_reservation_90 <| ru_sipush dX7_reservation_91 kc_s_9999 <| ?_
            obtain ⟨_, hrc, h⟩ := Option.bind_eq_some_iff.mp h
            obtain ⟨q14, hq14, h⟩ := Option.bind_eq_some_iff.mp h
            refine ru_callV (tm_X7_puts hl0 (by omega) hq14) dX7_reservation_94 rfl pm_X7_91 mf_X7_puts (ab_rcv_of hrc rfl) rfl rfl (Nat.le_of_ble_eq_true rfl) ?_
            refine ru_if_eq (tgt := 124) dX7_reservation_97 (by decide) (fun hc => ?_) (fun hc => ?_)
            · rw [if_pos hc] at h
              exact ru_pick [] rfl (tbb_X7_reservation_124 hl0 hd    _ _ h)
            · rw [if_neg hc] at h
              refine ru_aload_n (i := 0) dX7_reservation_100 rfl rfl <| ru_aload_n (i := 1) dX7_reservation_101 rfl rfl <| ru_iconst dX7_reservation_102 kc_i_5 <| ru_iconst dX7_reservation_103 kc_i_0 <| ru_bipush dX7_reservation_104 kc_b_100 <| ?_
              obtain ⟨_, hrc, h⟩ := Option.bind_eq_some_iff.mp h
              obtain ⟨q15, hq15, h⟩ := Option.bind_eq_some_iff.mp h
              refine ru_callV (tm_X7_puts hl0 (by omega) hq15) dX7_reservation_106 rfl pm_X7_91 mf_X7_puts (ab_rcv_of hrc rfl) rfl rfl (Nat.le_of_ble_eq_true rfl) ?_
              refine ru_if_eq (tgt := 124) dX7_reservation_109 (by decide) (fun hc => ?_) (fun hc => ?_)
              · rw [if_pos hc] at h
                exact ru_pick [] rfl (tbb_X7_reservation_124 hl0 hd    _ _ h)
              · rw [if_neg hc] at h
                refine ru_aload_n (i := 0) dX7_reservation_112 rfl rfl <| ru_aload_n (i := 1) dX7_reservation_113 rfl rfl <| ?_
                obtain ⟨_, hrc, h⟩ := Option.bind_eq_some_iff.mp h
                obtain ⟨q16, hq16, h⟩ := Option.bind_eq_some_iff.mp h
                refine ru_callV (tm_X7_keeps hl0 (by omega) hq16) dX7_reservation_114 rfl pm_X7_95 mf_X7_keeps (ab_rcv_of hrc rfl) rfl rfl (Nat.le_of_ble_eq_true rfl) ?_
                refine ru_if_eq (tgt := 124) dX7_reservation_117 (by decide) (fun hc => ?_) (fun hc => ?_)
                · rw [if_pos hc] at h
                  exact ru_pick [] rfl (tbb_X7_reservation_124 hl0 hd    _ _ h)
                · rw [if_neg hc] at h
                  refine ru_iconst dX7_reservation_120 kc_i_1 <| ru_goto (tgt := 125) dX7_reservation_121 (by decide) <| ?_
                  exact ru_pick [] rfl (tbb_X7_reservation_125 hl0 hd   _ _ _ h)
theorem tm_X7_reservation {l : Launch} {g : ab_G} (hl0 : l.stackTraces = false) {d : Nat} (hd : 4 ≤ d) {l0 : Nat} {l1 : Nat} {m : ab_Mm} {z : (Int32 × ab_Mm)} (h : dd_X7_reservation l0 l1 m = some z) : ab_Met l g yX7_reservation cX7_reservation 2 (some .boolean) [] d [.ref l0, .ref l1] m (.inl (some (.int z.1))) z.2 := by
  obtain ⟨d2, rfl⟩ : ∃ d2, d = d2 + 1 := ⟨d - 1, by omega⟩
  exact ab_of hl0 (by decide +kernel) (Nat.le_of_ble_eq_true rfl) (fun q => by cases q) rfl (te_X7_reservation hl0 hd _ _ _ _ h)
theorem te_X7_isFirst {l : Launch} {g : ab_G} (hl0 : l.stackTraces = false) {d2 : Nat} (hd : 3 ≤ d2 + 1)   (l0 : Nat) (l1 : Int32) (m0 : ab_Mm) (z : (Int32 × ab_Mm)) (h : dd_X7_isFirst  l0 l1 m0 = some z) : ab_W l g cX7_isFirst RX7 2 (some .boolean) [] false (d2 + 1) (.inl (some (.int z.1))) z.2 0 [(0, .ref l0), (1, .int l1)] [] m0 := by
  unfold dd_X7_isFirst at h
  refine ru_aload_n (i := 0) dX7_isFirst_0 rfl rfl <| ?_
  refine ru_getI h dX7_isFirst_1 lk_X7_47 ?_
  intro v1 h
  refine ru_iload_n (i := 1) dX7_isFirst_4 rfl rfl <| ru_iand dX7_isFirst_5 <| ?_
  refine ru_if_eq (tgt := 15) dX7_isFirst_6 (by decide) (fun hc => ?_) (fun hc => ?_)
  · rw [if_pos hc] at h
    refine ru_aload_n (i := 0) dX7_isFirst_15 rfl rfl <| ru_dup dX7_isFirst_16 rfl <| ?_
    refine ru_getI h dX7_isFirst_17 lk_X7_47 ?_
    intro v2 h
    refine ru_iload_n (i := 1) dX7_isFirst_20 rfl rfl <| ru_ior dX7_isFirst_21 <| ?_
    refine ru_putI h dX7_isFirst_22 lk_X7_47 ?_
    intro m3 h
    refine ru_aload_n (i := 0) dX7_isFirst_25 rfl rfl <| ?_
    obtain ⟨_, hrc, h⟩ := Option.bind_eq_some_iff.mp h
    obtain ⟨q4, hq4, h⟩ := Option.bind_eq_some_iff.mp h
    refine ru_callV (tm_X7_advance hl0 (by omega) hq4) dX7_isFirst_26 rfl pm_X7_66 mf_X7_advance (ab_rcv_of hrc rfl) rfl rfl (Nat.le_of_ble_eq_true rfl) ?_
    refine ru_iconst dX7_isFirst_29 kc_i_1 <| ?_
    cases h
    exact ru_ret (v := some (.int _)) ⟨_, rfl, ab_nz1, dX7_isFirst_30⟩
  · rw [if_neg hc] at h
    refine ru_aload_n (i := 0) dX7_isFirst_9 rfl rfl <| ru_iconst dX7_isFirst_10 kc_i_2 <| ?_
    obtain ⟨_, hrc, h⟩ := Option.bind_eq_some_iff.mp h
    obtain ⟨q5, hq5, h⟩ := Option.bind_eq_some_iff.mp h
    refine ru_callV (tm_X7_fail hl0 (by omega) hq5) dX7_isFirst_11 rfl pm_X7_141 mf_X7_fail (ab_rcv_of hrc rfl) rfl rfl (Nat.le_of_ble_eq_true rfl) ?_
    rcases ab_iff h with ⟨hc, h⟩ | ⟨hc, h⟩
    · cases h
    cases h
    exact ru_ret (v := some (.int _)) ⟨_, rfl, congrArg Value.int (Classical.not_not.mp hc), dX7_isFirst_14⟩
