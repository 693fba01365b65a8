/-! ===== the methods keep to these functions (by program) ===== -/
theorem te_X12_emit {l : Launch} {g : ab_G} (hl0 : l.stackTraces = false) {d2 : Nat} (hd : 1 ≤ d2 + 1)   (l0 : Nat) (l1 : Int32) (m0 : ab_Mm) (z : (Int32 × ab_Mm)) (h : dd_X12_emit  l0 l1 m0 = some z) : ab_W l g cX12_emit RX12 2 (some .boolean) [] false (d2 + 1) (.inl (some (.int z.1))) z.2 0 [(0, .ref l0), (1, .int l1)] [] m0 := by
  unfold dd_X12_emit at h
  refine ru_aload_n (i := 0) dX12_emit_0 rfl rfl <| ?_
  refine ru_getR h dX12_emit_1 lk_X12_32 ?_
  intro v1 h
  refine ru_sipush dX12_emit_4 kc_s_820 <| ru_aload_n (i := 0) dX12_emit_7 rfl rfl <| ?_
  refine ru_getR h dX12_emit_8 lk_X12_29 ?_
  intro v2 h
  refine ru_iconst dX12_emit_11 kc_i_1 <| ?_
  refine ru_iaload h dX12_emit_12 ?_
  intro v3 h
  refine ru_iadd dX12_emit_13 <| ru_iload_n (i := 1) dX12_emit_14 rfl rfl <| ?_
  refine ru_iastore h dX12_emit_15 ?_
  intro m4 h
  refine ru_aload_n (i := 0) dX12_emit_16 rfl rfl <| ?_
  refine ru_getR h dX12_emit_17 lk_X12_29 ?_
  intro v5 h
  refine ru_iconst dX12_emit_20 kc_i_1 <| ru_dup2 dX12_emit_21 rfl rfl <| ?_
  refine ru_iaload h dX12_emit_22 ?_
  intro v6 h
  refine ru_iconst dX12_emit_23 kc_i_1 <| ru_iadd dX12_emit_24 <| ?_
  refine ru_iastore h dX12_emit_25 ?_
  intro m7 h
  refine ru_iconst dX12_emit_26 kc_i_1 <| ?_
  cases h
  exact ru_ret (v := some (.int _)) ⟨_, rfl, ab_nz1, dX12_emit_27⟩
theorem tm_X12_emit {l : Launch} {g : ab_G} (hl0 : l.stackTraces = false) {d : Nat} (hd : 1 ≤ d) {l0 : Nat} {l1 : Int32} {m : ab_Mm} {z : (Int32 × ab_Mm)} (h : dd_X12_emit l0 l1 m = some z) : ab_Met l g yX12_emit cX12_emit 2 (some .boolean) [] d [.ref l0, .int l1] m (.inl (some (.int z.1))) z.2 := by
  obtain ⟨d2, rfl⟩ : ∃ d2, d = d2 + 1 := ⟨d - 1, by omega⟩
  exact ab_of hl0 (by decide +kernel) (Nat.le_of_ble_eq_true rfl) (fun q => by cases q) rfl (te_X12_emit hl0 hd _ _ _ _ h)
theorem tbb_X12_clearDraft_2 {l : Launch} {g : ab_G} (hl0 : l.stackTraces = false) {d2 : Nat} (hd : 2 ≤ d2 + 1)   : ∀ (n : Nat) (l0 : Nat) (l1 : Int32) (m0 : ab_Mm) (z : (Unit × ab_Mm)), bb_X12_clearDraft_2  n l0 l1 m0 = some z → ab_W l g cX12_clearDraft RX12 2 none [] false (d2 + 1) (.inl none) z.2 2 [(0, .ref l0), (1, .int l1)] [] m0 := by
  intro n
  induction n with
  | zero => intro l0 l1 m0 z h; cases h
  | succ n ih =>
    intro l0 l1 m0 z h
    rw [bb_X12_clearDraft_2] at h
    refine ru_iload_n (i := 1) dX12_clearDraft_2 rfl rfl <| ru_iconst dX12_clearDraft_3 kc_i_4 <| ?_
    refine ru_icmp_ge (tgt := 23) dX12_clearDraft_4 (by decide) (fun hc => ?_) (fun hc => ?_)
    · rw [if_pos hc] at h
      refine ru_aload_n (i := 0) dX12_clearDraft_23 rfl rfl <| ?_
      refine ru_getR h dX12_clearDraft_24 lk_X12_13 ?_
      intro v1 h
      refine ru_bipush dX12_clearDraft_27 kc_b_11 <| ru_bipush dX12_clearDraft_29 kc_b_20 <| ?_
      refine ru_iastore h dX12_clearDraft_31 ?_
      intro m2 h
      refine ru_aload_n (i := 0) dX12_clearDraft_32 rfl rfl <| ?_
      refine ru_getR h dX12_clearDraft_33 lk_X12_13 ?_
      intro v3 h
      refine ru_bipush dX12_clearDraft_36 kc_b_12 <| ru_iconst dX12_clearDraft_38 kc_i_2 <| ?_
      refine ru_iastore h dX12_clearDraft_39 ?_
      intro m4 h
      refine ru_aload_n (i := 0) dX12_clearDraft_40 rfl rfl <| ?_
      refine ru_getR h dX12_clearDraft_41 lk_X12_13 ?_
      intro v5 h
      refine ru_bipush dX12_clearDraft_44 kc_b_13 <| ru_bipush dX12_clearDraft_46 kc_b_100 <| ?_
      refine ru_iastore h dX12_clearDraft_48 ?_
      intro m6 h
      refine ru_aload_n (i := 0) dX12_clearDraft_49 rfl rfl <| ?_
      refine ru_getR h dX12_clearDraft_50 lk_X12_29 ?_
      intro v7 h
      refine ru_iconst dX12_clearDraft_53 kc_i_1 <| ru_iconst dX12_clearDraft_54 kc_i_0 <| ?_
      refine ru_iastore h dX12_clearDraft_55 ?_
      intro m8 h
      refine ru_aload_n (i := 0) dX12_clearDraft_56 rfl rfl <| ru_iconst dX12_clearDraft_57 kc_i_2 <| ?_
      obtain ⟨_, hrc, h⟩ := Option.bind_eq_some_iff.mp h
      obtain ⟨q9, hq9, h⟩ := Option.bind_eq_some_iff.mp h
      refine ru_callV (tm_X12_emit hl0 (by omega) hq9) dX12_clearDraft_58 rfl pm_X12_90 mf_X12_emit (ab_rcv_of hrc rfl) rfl rfl (Nat.le_of_ble_eq_true rfl) ?_
      refine ru_pop dX12_clearDraft_61 rfl <| ?_
      cases h
      exact ru_ret (v := none) ⟨rfl, dX12_clearDraft_62⟩
    · rw [if_neg hc] at h
      refine ru_aload_n (i := 0) dX12_clearDraft_7 rfl rfl <| ?_
      refine ru_getR h dX12_clearDraft_8 lk_X12_13 ?_
      intro v10 h
      refine ru_bipush dX12_clearDraft_11 kc_b_7 <| ru_iload_n (i := 1) dX12_clearDraft_13 rfl rfl <| ru_iadd dX12_clearDraft_14 <| ru_iconst dX12_clearDraft_15 kc_i_0 <| ?_
      refine ru_iastore h dX12_clearDraft_16 ?_
      intro m11 h
      refine ru_iinc dX12_clearDraft_17 (by decide) rfl (ab_inc kc_i_1) <| ru_goto (tgt := 2) dX12_clearDraft_20 (by decide) <| ?_
      exact ru_pick [0, 1] rfl (ih _ _ _ _ h)
theorem te_X12_clearDraft {l : Launch} {g : ab_G} (hl0 : l.stackTraces = false) {d2 : Nat} (hd : 2 ≤ d2 + 1)   (l0 : Nat) (m0 : ab_Mm) (z : (Unit × ab_Mm)) (h : dd_X12_clearDraft  l0 m0 = some z) : ab_W l g cX12_clearDraft RX12 2 none [] false (d2 + 1) (.inl none) z.2 0 [(0, .ref l0)] [] m0 := by
  unfold dd_X12_clearDraft at h
  refine ru_iconst dX12_clearDraft_0 kc_i_0 <| ru_istore_n (i := 1) dX12_clearDraft_1 rfl (by decide) <| ?_
  exact ru_pick [0, 1] rfl (tbb_X12_clearDraft_2 hl0 hd   _ _ _ _ _ h)
theorem tm_X12_clearDraft {l : Launch} {g : ab_G} (hl0 : l.stackTraces = false) {d : Nat} (hd : 2 ≤ d) {l0 : Nat} {m : ab_Mm} {z : (Unit × ab_Mm)} (h : dd_X12_clearDraft l0 m = some z) : ab_Met l g yX12_clearDraft cX12_clearDraft 2 none [] d [.ref l0] m (.inl none) z.2 := by
  obtain ⟨d2, rfl⟩ : ∃ d2, d = d2 + 1 := ⟨d - 1, by omega⟩
  exact ab_of hl0 (by decide +kernel) (Nat.le_of_ble_eq_true rfl) (fun q => by cases q) rfl (te_X12_clearDraft hl0 hd _ _ _ h)
theorem tbb_X12_lifts_2 {l : Launch} {g : ab_G} (hl0 : l.stackTraces = false) {d2 : Nat} (hd : 1 ≤ d2 + 1)   : ∀ (n : Nat) (l0 : Nat) (l1 : Int32) (m0 : ab_Mm) (z : (Unit × ab_Mm)), bb_X12_lifts_2  n l0 l1 m0 = some z → ab_W l g cX12_lifts RX12 2 none [] false (d2 + 1) (.inl none) z.2 2 [(0, .ref l0), (1, .int l1)] [] m0 := by
  intro n
  induction n with
  | zero => intro l0 l1 m0 z h; cases h
  | succ n ih =>
    intro l0 l1 m0 z h
    rw [bb_X12_lifts_2] at h
    refine ru_iload_n (i := 1) dX12_lifts_2 rfl rfl <| ru_aload_n (i := 0) dX12_lifts_3 rfl rfl <| ?_
    refine ru_alen 0 h dX12_lifts_4 ?_
    intro v1 h
    refine ru_iconst dX12_lifts_5 kc_i_2 <| ?_
    rcases ab_iff h with ⟨hc, h⟩ | ⟨hc, h⟩
    · cases h
    refine ru_idiv dX12_lifts_6 hc ?_
    refine ru_icmp_ge (tgt := 27) dX12_lifts_7 (by decide) (fun hc => ?_) (fun hc => ?_)
    · rw [if_pos hc] at h
      cases h
      exact ru_ret (v := none) ⟨rfl, dX12_lifts_27⟩
    · rw [if_neg hc] at h
      refine ru_aload_n (i := 0) dX12_lifts_10 rfl rfl <| ru_iload_n (i := 1) dX12_lifts_11 rfl rfl <| ru_aload_n (i := 0) dX12_lifts_12 rfl rfl <| ru_aload_n (i := 0) dX12_lifts_13 rfl rfl <| ?_
      refine ru_alen 0 h dX12_lifts_14 ?_
      intro v2 h
      refine ru_iconst dX12_lifts_15 kc_i_2 <| ?_
      rcases ab_iff h with ⟨hc, h⟩ | ⟨hc, h⟩
      · cases h
      refine ru_idiv dX12_lifts_16 hc ?_
      refine ru_iload_n (i := 1) dX12_lifts_17 rfl rfl <| ru_iadd dX12_lifts_18 <| ?_
      refine ru_iaload h dX12_lifts_19 ?_
      intro v3 h
      refine ru_iastore h dX12_lifts_20 ?_
      intro m4 h
      refine ru_iinc dX12_lifts_21 (by decide) rfl (ab_inc kc_i_1) <| ru_goto (tgt := 2) dX12_lifts_24 (by decide) <| ?_
      exact ru_pick [0, 1] rfl (ih _ _ _ _ h)
theorem te_X12_lifts {l : Launch} {g : ab_G} (hl0 : l.stackTraces = false) {d2 : Nat} (hd : 1 ≤ d2 + 1)   (l0 : Nat) (m0 : ab_Mm) (z : (Unit × ab_Mm)) (h : dd_X12_lifts  l0 m0 = some z) : ab_W l g cX12_lifts RX12 2 none [] false (d2 + 1) (.inl none) z.2 0 [(0, .ref l0)] [] m0 := by
  unfold dd_X12_lifts at h
  refine ru_iconst dX12_lifts_0 kc_i_0 <| ru_istore_n (i := 1) dX12_lifts_1 rfl (by decide) <| ?_
  exact ru_pick [0, 1] rfl (tbb_X12_lifts_2 hl0 hd   _ _ _ _ _ h)
theorem tm_X12_lifts {l : Launch} {g : ab_G} (hl0 : l.stackTraces = false) {d : Nat} (hd : 1 ≤ d) {l0 : Nat} {m : ab_Mm} {z : (Unit × ab_Mm)} (h : dd_X12_lifts l0 m = some z) : ab_Met l g yX12_lifts cX12_lifts 2 none [] d [.ref l0] m (.inl none) z.2 := by
  obtain ⟨d2, rfl⟩ : ∃ d2, d = d2 + 1 := ⟨d - 1, by omega⟩
  exact ab_of hl0 (by decide +kernel) (Nat.le_of_ble_eq_true rfl) (fun q => by cases q) rfl (te_X12_lifts hl0 hd _ _ _ h)
theorem te_X12_liftsAll {l : Launch} {g : ab_G} (hl0 : l.stackTraces = false) {d2 : Nat} (hd : 2 ≤ d2 + 1)   (l0 : Nat) (m0 : ab_Mm) (z : (Unit × ab_Mm)) (h : dd_X12_liftsAll  l0 m0 = some z) : ab_W l g cX12_liftsAll RX12 1 none [] false (d2 + 1) (.inl none) z.2 0 [(0, .ref l0)] [] m0 := by
  unfold dd_X12_liftsAll at h
  refine ru_aload_n (i := 0) dX12_liftsAll_0 rfl rfl <| ?_
  refine ru_getR h dX12_liftsAll_1 lk_X12_13 ?_
  intro v1 h
  obtain ⟨q2, hq2, h⟩ := Option.bind_eq_some_iff.mp h
  refine ru_callS (tm_X12_lifts hl0 (by omega) hq2) dX12_liftsAll_4 rfl pm_X12_86 mf_X12_lifts rfl rfl (Nat.le_of_ble_eq_true rfl) ?_
  refine ru_aload_n (i := 0) dX12_liftsAll_7 rfl rfl <| ?_
  refine ru_getR h dX12_liftsAll_8 lk_X12_17 ?_
  intro v3 h
  obtain ⟨q4, hq4, h⟩ := Option.bind_eq_some_iff.mp h
  refine ru_callS (tm_X12_lifts hl0 (by omega) hq4) dX12_liftsAll_11 rfl pm_X12_86 mf_X12_lifts rfl rfl (Nat.le_of_ble_eq_true rfl) ?_
  refine ru_aload_n (i := 0) dX12_liftsAll_14 rfl rfl <| ?_
  refine ru_getR h dX12_liftsAll_15 lk_X12_20 ?_
  intro v5 h
  obtain ⟨q6, hq6, h⟩ := Option.bind_eq_some_iff.mp h
  refine ru_callS (tm_X12_lifts hl0 (by omega) hq6) dX12_liftsAll_18 rfl pm_X12_86 mf_X12_lifts rfl rfl (Nat.le_of_ble_eq_true rfl) ?_
  refine ru_aload_n (i := 0) dX12_liftsAll_21 rfl rfl <| ?_
  refine ru_getR h dX12_liftsAll_22 lk_X12_23 ?_
  intro v7 h
  obtain ⟨q8, hq8, h⟩ := Option.bind_eq_some_iff.mp h
  refine ru_callS (tm_X12_lifts hl0 (by omega) hq8) dX12_liftsAll_25 rfl pm_X12_86 mf_X12_lifts rfl rfl (Nat.le_of_ble_eq_true rfl) ?_
  refine ru_aload_n (i := 0) dX12_liftsAll_28 rfl rfl <| ?_
  refine ru_getR h dX12_liftsAll_29 lk_X12_26 ?_
  intro v9 h
  obtain ⟨q10, hq10, h⟩ := Option.bind_eq_some_iff.mp h
  refine ru_callS (tm_X12_lifts hl0 (by omega) hq10) dX12_liftsAll_32 rfl pm_X12_86 mf_X12_lifts rfl rfl (Nat.le_of_ble_eq_true rfl) ?_
  refine ru_aload_n (i := 0) dX12_liftsAll_35 rfl rfl <| ?_
  refine ru_getR h dX12_liftsAll_36 lk_X12_29 ?_
  intro v11 h
  obtain ⟨q12, hq12, h⟩ := Option.bind_eq_some_iff.mp h
  refine ru_callS (tm_X12_lifts hl0 (by omega) hq12) dX12_liftsAll_39 rfl pm_X12_86 mf_X12_lifts rfl rfl (Nat.le_of_ble_eq_true rfl) ?_
  refine ru_aload_n (i := 0) dX12_liftsAll_42 rfl rfl <| ?_
  refine ru_getR h dX12_liftsAll_43 lk_X12_32 ?_
  intro v13 h
  obtain ⟨q14, hq14, h⟩ := Option.bind_eq_some_iff.mp h
  refine ru_callS (tm_X12_lifts hl0 (by omega) hq14) dX12_liftsAll_46 rfl pm_X12_86 mf_X12_lifts rfl rfl (Nat.le_of_ble_eq_true rfl) ?_
  cases h
  exact ru_ret (v := none) ⟨rfl, dX12_liftsAll_49⟩
theorem tm_X12_liftsAll {l : Launch} {g : ab_G} (hl0 : l.stackTraces = false) {d : Nat} (hd : 2 ≤ d) {l0 : Nat} {m : ab_Mm} {z : (Unit × ab_Mm)} (h : dd_X12_liftsAll l0 m = some z) : ab_Met l g yX12_liftsAll cX12_liftsAll 1 none [] d [.ref l0] m (.inl none) z.2 := by
  obtain ⟨d2, rfl⟩ : ∃ d2, d = d2 + 1 := ⟨d - 1, by omega⟩
  exact ab_of hl0 (by decide +kernel) (Nat.le_of_ble_eq_true rfl) (fun q => by cases q) rfl (te_X12_liftsAll hl0 hd _ _ _ h)
theorem te_X12_of {l : Launch} {g : ab_G} (hl0 : l.stackTraces = false) {d2 : Nat} (hd : 1 ≤ d2 + 1)   (l0 : Int32) (l1 : Int32) (m0 : ab_Mm) (z : (Int32 × ab_Mm)) (h : dd_X12_of  l0 l1 m0 = some z) : ab_W l g cX12_of RX12 2 (some .int) [] false (d2 + 1) (.inl (some (.int z.1))) z.2 0 [(0, .int l0), (1, .int l1)] [] m0 := by
  unfold dd_X12_of at h
  refine ru_bipush dX12_of_0 kc_b_14 <| ru_bipush dX12_of_2 kc_b_6 <| ru_iload_n (i := 0) dX12_of_4 rfl rfl <| ru_imul dX12_of_5 <| ru_iadd dX12_of_6 <| ru_iload_n (i := 1) dX12_of_7 rfl rfl <| ru_iadd dX12_of_8 <| ?_
  cases h
  exact ru_ret (v := some (.int _)) ⟨_, rfl, rfl, dX12_of_9⟩
theorem tm_X12_of {l : Launch} {g : ab_G} (hl0 : l.stackTraces = false) {d : Nat} (hd : 1 ≤ d) {l0 : Int32} {l1 : Int32} {m : ab_Mm} {z : (Int32 × ab_Mm)} (h : dd_X12_of l0 l1 m = some z) : ab_Met l g yX12_of cX12_of 2 (some .int) [] d [.int l0, .int l1] m (.inl (some (.int z.1))) z.2 := by
  obtain ⟨d2, rfl⟩ : ∃ d2, d = d2 + 1 := ⟨d - 1, by omega⟩
  exact ab_of hl0 (by decide +kernel) (Nat.le_of_ble_eq_true rfl) (fun q => by cases q) rfl (te_X12_of hl0 hd _ _ _ _ h)
theorem tbb_X12_allCpu_4 {l : Launch} {g : ab_G} (hl0 : l.stackTraces = false) {d2 : Nat} (hd : 1 ≤ d2 + 1)   : ∀ (n : Nat) (l0 : Nat) (l1 : Int32) (l2 : Int32) (m0 : ab_Mm) (z : (Int32 × ab_Mm)), bb_X12_allCpu_4  n l0 l1 l2 m0 = some z → ab_W l g cX12_allCpu RX12 3 (some .int) [] false (d2 + 1) (.inl (some (.int z.1))) z.2 4 [(0, .ref l0), (1, .int l1), (2, .int l2)] [] m0 := by
  intro n
  induction n with
  | zero => intro l0 l1 l2 m0 z h; cases h
  | succ n ih =>
    intro l0 l1 l2 m0 z h
    rw [bb_X12_allCpu_4] at h
    refine ru_iload_n (i := 2) dX12_allCpu_4 rfl rfl <| ru_aload_n (i := 0) dX12_allCpu_5 rfl rfl <| ?_
    refine ru_getR h dX12_allCpu_6 lk_X12_13 ?_
    intro v1 h
    refine ru_iconst dX12_allCpu_9 kc_i_0 <| ?_
    refine ru_iaload h dX12_allCpu_10 ?_
    intro v2 h
    refine ru_icmp_ge (tgt := 31) dX12_allCpu_11 (by decide) (fun hc => ?_) (fun hc => ?_)
    · rw [if_pos hc] at h
      refine ru_iload_n (i := 1) dX12_allCpu_31 rfl rfl <| ?_
      cases h
      exact ru_ret (v := some (.int _)) ⟨_, rfl, rfl, dX12_allCpu_32⟩
    · rw [if_neg hc] at h
      refine ru_iload_n (i := 1) dX12_allCpu_14 rfl rfl <| ru_aload_n (i := 0) dX12_allCpu_15 rfl rfl <| ?_
      refine ru_getR h dX12_allCpu_16 lk_X12_17 ?_
      intro v3 h
      refine ru_iconst dX12_allCpu_19 kc_i_2 <| ru_iload_n (i := 2) dX12_allCpu_20 rfl rfl <| ru_imul dX12_allCpu_21 <| ?_
      refine ru_iaload h dX12_allCpu_22 ?_
      intro v4 h
      refine ru_iadd dX12_allCpu_23 <| ru_istore_n (i := 1) dX12_allCpu_24 rfl (by decide) <| ru_iinc dX12_allCpu_25 (by decide) rfl (ab_inc kc_i_1) <| ru_goto (tgt := 4) dX12_allCpu_28 (by decide) <| ?_
      exact ru_pick [0, 1, 2] rfl (ih _ _ _ _ _ h)
theorem te_X12_allCpu {l : Launch} {g : ab_G} (hl0 : l.stackTraces = false) {d2 : Nat} (hd : 1 ≤ d2 + 1)   (l0 : Nat) (m0 : ab_Mm) (z : (Int32 × ab_Mm)) (h : dd_X12_allCpu  l0 m0 = some z) : ab_W l g cX12_allCpu RX12 3 (some .int) [] false (d2 + 1) (.inl (some (.int z.1))) z.2 0 [(0, .ref l0)] [] m0 := by
  unfold dd_X12_allCpu at h
  refine ru_iconst dX12_allCpu_0 kc_i_0 <| ru_istore_n (i := 1) dX12_allCpu_1 rfl (by decide) <| ru_iconst dX12_allCpu_2 kc_i_0 <| ru_istore_n (i := 2) dX12_allCpu_3 rfl (by decide) <| ?_
  exact ru_pick [0, 1, 2] rfl (tbb_X12_allCpu_4 hl0 hd   _ _ _ _ _ _ h)
theorem tm_X12_allCpu {l : Launch} {g : ab_G} (hl0 : l.stackTraces = false) {d : Nat} (hd : 1 ≤ d) {l0 : Nat} {m : ab_Mm} {z : (Int32 × ab_Mm)} (h : dd_X12_allCpu l0 m = some z) : ab_Met l g yX12_allCpu cX12_allCpu 3 (some .int) [] d [.ref l0] m (.inl (some (.int z.1))) z.2 := by
  obtain ⟨d2, rfl⟩ : ∃ d2, d = d2 + 1 := ⟨d - 1, by omega⟩
  exact ab_of hl0 (by decide +kernel) (Nat.le_of_ble_eq_true rfl) (fun q => by cases q) rfl (te_X12_allCpu hl0 hd _ _ _ h)
theorem tbb_X12_runs_22 {l : Launch} {g : ab_G} (hl0 : l.stackTraces = false) {d2 : Nat} (hd : 2 ≤ d2 + 1)   (s0 : Int32) (m0 : ab_Mm) (z : (Int32 × ab_Mm)) (h : bb_X12_runs_22  s0 m0 = some z) : ab_W l g cX12_runs RX12 2 (some .boolean) [] false (d2 + 1) (.inl (some (.int z.1))) z.2 22 [] [.int s0] m0 := by
  unfold bb_X12_runs_22 at h
  rcases ab_iff h with ⟨hc, h⟩ | ⟨hc, h⟩
  · cases h
  cases h
  exact ru_ret (v := some (.int _)) ⟨_, rfl, congrArg Value.int (Classical.not_not.mp hc), dX12_runs_22⟩
theorem te_X12_runs {l : Launch} {g : ab_G} (hl0 : l.stackTraces = false) {d2 : Nat} (hd : 2 ≤ d2 + 1)   (l0 : Nat) (l1 : Int32) (m0 : ab_Mm) (z : (Int32 × ab_Mm)) (h : dd_X12_runs  l0 l1 m0 = some z) : ab_W l g cX12_runs RX12 2 (some .boolean) [] false (d2 + 1) (.inl (some (.int z.1))) z.2 0 [(0, .ref l0), (1, .int l1)] [] m0 := by
  unfold dd_X12_runs at h
  refine ru_aload_n (i := 0) dX12_runs_0 rfl rfl <| ?_
  refine ru_getR h dX12_runs_1 lk_X12_7 ?_
  intro v1 h
  refine ru_iload_n (i := 1) dX12_runs_4 rfl rfl <| ru_iconst dX12_runs_5 kc_i_0 <| ?_
  obtain ⟨q2, hq2, h⟩ := Option.bind_eq_some_iff.mp h
  refine ru_callS (tm_X12_of hl0 (by omega) hq2) dX12_runs_6 rfl pm_X12_238 mf_X12_of rfl rfl (Nat.le_of_ble_eq_true rfl) ?_
  refine ru_laload h dX12_runs_9 ?_
  intro v3 h
  refine ru_ldc2_w dX12_runs_10 pk_X12_256 <| ru_lcmp dX12_runs_13 <| ?_
  refine ru_if_eq (tgt := 21) dX12_runs_14 (by decide) (fun hc => ?_) (fun hc => ?_)
  · rw [if_pos hc] at h
    refine ru_iconst dX12_runs_21 kc_i_0 <| ?_
    exact ru_pick [] rfl (tbb_X12_runs_22 hl0 hd   _ _ _ h)
  · rw [if_neg hc] at h
    refine ru_iconst dX12_runs_17 kc_i_1 <| ru_goto (tgt := 22) dX12_runs_18 (by decide) <| ?_
    exact ru_pick [] rfl (tbb_X12_runs_22 hl0 hd   _ _ _ h)
theorem tm_X12_runs {l : Launch} {g : ab_G} (hl0 : l.stackTraces = false) {d : Nat} (hd : 2 ≤ d) {l0 : Nat} {l1 : Int32} {m : ab_Mm} {z : (Int32 × ab_Mm)} (h : dd_X12_runs l0 l1 m = some z) : ab_Met l g yX12_runs cX12_runs 2 (some .boolean) [] d [.ref l0, .int l1] m (.inl (some (.int z.1))) z.2 := by
  obtain ⟨d2, rfl⟩ : ∃ d2, d = d2 + 1 := ⟨d - 1, by omega⟩
  exact ab_of hl0 (by decide +kernel) (Nat.le_of_ble_eq_true rfl) (fun q => by cases q) rfl (te_X12_runs hl0 hd _ _ _ _ h)
theorem te_X12_its {l : Launch} {g : ab_G} (hl0 : l.stackTraces = false) {d2 : Nat} (hd : 2 ≤ d2 + 1)   (l0 : Nat) (l1 : Int32) (l2 : Int32) (m0 : ab_Mm) (z : (Int32 × ab_Mm)) (h : dd_X12_its  l0 l1 l2 m0 = some z) : ab_W l g cX12_its RX12 3 (some .int) [] false (d2 + 1) (.inl (some (.int z.1))) z.2 0 [(0, .ref l0), (1, .int l1), (2, .int l2)] [] m0 := by
  unfold dd_X12_its at h
  refine ru_aload_n (i := 0) dX12_its_0 rfl rfl <| ?_
  refine ru_getR h dX12_its_1 lk_X12_7 ?_
  intro v1 h
  refine ru_iload_n (i := 1) dX12_its_4 rfl rfl <| ru_iload_n (i := 2) dX12_its_5 rfl rfl <| ?_
  obtain ⟨q2, hq2, h⟩ := Option.bind_eq_some_iff.mp h
  refine ru_callS (tm_X12_of hl0 (by omega) hq2) dX12_its_6 rfl pm_X12_238 mf_X12_of rfl rfl (Nat.le_of_ble_eq_true rfl) ?_
  refine ru_laload h dX12_its_9 ?_
  intro v3 h
  refine ru_l2i dX12_its_10 <| ?_
  cases h
  exact ru_ret (v := some (.int _)) ⟨_, rfl, rfl, dX12_its_11⟩
theorem tm_X12_its {l : Launch} {g : ab_G} (hl0 : l.stackTraces = false) {d : Nat} (hd : 2 ≤ d) {l0 : Nat} {l1 : Int32} {l2 : Int32} {m : ab_Mm} {z : (Int32 × ab_Mm)} (h : dd_X12_its l0 l1 l2 m = some z) : ab_Met l g yX12_its cX12_its 3 (some .int) [] d [.ref l0, .int l1, .int l2] m (.inl (some (.int z.1))) z.2 := by
  obtain ⟨d2, rfl⟩ : ∃ d2, d = d2 + 1 := ⟨d - 1, by omega⟩
  exact ab_of hl0 (by decide +kernel) (Nat.le_of_ble_eq_true rfl) (fun q => by cases q) rfl (te_X12_its hl0 hd _ _ _ _ _ h)
theorem tbb_X12_loadCpu_36 {l : Launch} {g : ab_G} (hl0 : l.stackTraces = false) {d2 : Nat} (hd : 3 ≤ d2 + 1) (r4 : Nat → Int32 → Int32 → ab_Mm → Option (Int32 × ab_Mm)) (hr4 : ∀ (l0 : Nat) (l1 : Int32) (l2 : Int32) (m : ab_Mm) (z : (Int32 × ab_Mm)), r4 l0 l1 l2 m = some z → ab_W l g cX12_loadCpu RX12 3 (some .int) [] false (d2 + 1) (.inl (some (.int z.1))) z.2 4 [(0, .ref l0), (1, .int l1), (2, .int l2)] [] m) (l0 : Nat) (l2 : Int32) (s0 : Int32) (s1 : Int32) (m0 : ab_Mm) (z : (Int32 × ab_Mm)) (h : bb_X12_loadCpu_36 r4 l0 l2 s0 s1 m0 = some z) : ab_W l g cX12_loadCpu RX12 3 (some .int) [] false (d2 + 1) (.inl (some (.int z.1))) z.2 36 [(0, .ref l0), (2, .int l2)] [.int s1, .int s0] m0 := by
  unfold bb_X12_loadCpu_36 at h
  refine ru_iadd dX12_loadCpu_36 <| ru_istore_n (i := 1) dX12_loadCpu_37 rfl (by decide) <| ru_iinc dX12_loadCpu_38 (by decide) rfl (ab_inc kc_i_1) <| ru_goto (tgt := 4) dX12_loadCpu_41 (by decide) <| ?_
  exact ru_pick [0, 1, 2] rfl (hr4 _ _ _ _ _ h)
theorem tbb_X12_loadCpu_4 {l : Launch} {g : ab_G} (hl0 : l.stackTraces = false) {d2 : Nat} (hd : 3 ≤ d2 + 1)   : ∀ (n : Nat) (l0 : Nat) (l1 : Int32) (l2 : Int32) (m0 : ab_Mm) (z : (Int32 × ab_Mm)), bb_X12_loadCpu_4  n l0 l1 l2 m0 = some z → ab_W l g cX12_loadCpu RX12 3 (some .int) [] false (d2 + 1) (.inl (some (.int z.1))) z.2 4 [(0, .ref l0), (1, .int l1), (2, .int l2)] [] m0 := by
  intro n
  induction n with
  | zero => intro l0 l1 l2 m0 z h; cases h
  | succ n ih =>
    intro l0 l1 l2 m0 z h
    rw [bb_X12_loadCpu_4] at h
    refine ru_iload_n (i := 2) dX12_loadCpu_4 rfl rfl <| ru_bipush dX12_loadCpu_5 kc_b_12 <| ?_
    refine ru_icmp_ge (tgt := 44) dX12_loadCpu_7 (by decide) (fun hc => ?_) (fun hc => ?_)
    · rw [if_pos hc] at h
      refine ru_iload_n (i := 1) dX12_loadCpu_44 rfl rfl <| ?_
      cases h
      exact ru_ret (v := some (.int _)) ⟨_, rfl, rfl, dX12_loadCpu_45⟩
    · rw [if_neg hc] at h
      refine ru_iload_n (i := 1) dX12_loadCpu_10 rfl rfl <| ru_aload_n (i := 0) dX12_loadCpu_11 rfl rfl <| ru_iload_n (i := 2) dX12_loadCpu_12 rfl rfl <| ?_
      obtain ⟨_, hrc, h⟩ := Option.bind_eq_some_iff.mp h
      obtain ⟨q1, hq1, h⟩ := Option.bind_eq_some_iff.mp h
      refine ru_callV (tm_X12_runs hl0 (by omega) hq1) dX12_loadCpu_13 rfl pm_X12_264 mf_X12_runs (ab_rcv_of hrc rfl) rfl rfl (Nat.le_of_ble_eq_true rfl) ?_
      refine ru_if_eq (tgt := 35) dX12_loadCpu_16 (by decide) (fun hc => ?_) (fun hc => ?_)
      · rw [if_pos hc] at h
        refine ru_iconst dX12_loadCpu_35 kc_i_0 <| ?_
        exact ru_pick [0, 2] rfl (tbb_X12_loadCpu_36 hl0 hd _ ih _ _ _ _ _ _ h)
      · rw [if_neg hc] at h
        refine ru_aload_n (i := 0) dX12_loadCpu_19 rfl rfl <| ?_
        refine ru_getR h dX12_loadCpu_20 lk_X12_20 ?_
        intro v2 h
        refine ru_iconst dX12_loadCpu_23 kc_i_3 <| ru_aload_n (i := 0) dX12_loadCpu_24 rfl rfl <| ru_iload_n (i := 2) dX12_loadCpu_25 rfl rfl <| ru_iconst dX12_loadCpu_26 kc_i_1 <| ?_
        obtain ⟨_, hrc, h⟩ := Option.bind_eq_some_iff.mp h
        obtain ⟨q3, hq3, h⟩ := Option.bind_eq_some_iff.mp h
        refine ru_callV (tm_X12_its hl0 (by omega) hq3) dX12_loadCpu_27 rfl pm_X12_242 mf_X12_its (ab_rcv_of hrc rfl) rfl rfl (Nat.le_of_ble_eq_true rfl) ?_
        refine ru_imul dX12_loadCpu_30 <| ?_
        refine ru_iaload h dX12_loadCpu_31 ?_
        intro v4 h
        refine ru_goto (tgt := 36) dX12_loadCpu_32 (by decide) <| ?_
        exact ru_pick [0, 2] rfl (tbb_X12_loadCpu_36 hl0 hd _ ih _ _ _ _ _ _ h)
theorem te_X12_loadCpu {l : Launch} {g : ab_G} (hl0 : l.stackTraces = false) {d2 : Nat} (hd : 3 ≤ d2 + 1)   (l0 : Nat) (m0 : ab_Mm) (z : (Int32 × ab_Mm)) (h : dd_X12_loadCpu  l0 m0 = some z) : ab_W l g cX12_loadCpu RX12 3 (some .int) [] false (d2 + 1) (.inl (some (.int z.1))) z.2 0 [(0, .ref l0)] [] m0 := by
  unfold dd_X12_loadCpu at h
  refine ru_iconst dX12_loadCpu_0 kc_i_0 <| ru_istore_n (i := 1) dX12_loadCpu_1 rfl (by decide) <| ru_iconst dX12_loadCpu_2 kc_i_0 <| ru_istore_n (i := 2) dX12_loadCpu_3 rfl (by decide) <| ?_
  exact ru_pick [0, 1, 2] rfl (tbb_X12_loadCpu_4 hl0 hd   _ _ _ _ _ _ h)
theorem tm_X12_loadCpu {l : Launch} {g : ab_G} (hl0 : l.stackTraces = false) {d : Nat} (hd : 3 ≤ d) {l0 : Nat} {m : ab_Mm} {z : (Int32 × ab_Mm)} (h : dd_X12_loadCpu l0 m = some z) : ab_Met l g yX12_loadCpu cX12_loadCpu 3 (some .int) [] d [.ref l0] m (.inl (some (.int z.1))) z.2 := by
  obtain ⟨d2, rfl⟩ : ∃ d2, d = d2 + 1 := ⟨d - 1, by omega⟩
  exact ab_of hl0 (by decide +kernel) (Nat.le_of_ble_eq_true rfl) (fun q => by cases q) rfl (te_X12_loadCpu hl0 hd _ _ _ h)
theorem tbb_X12_setsPrices_97 {l : Launch} {g : ab_G} (hl0 : l.stackTraces = false) {d2 : Nat} (hd : 4 ≤ d2 + 1) (r25 : Nat → Int32 → Int32 → ab_Mm → Option (Unit × ab_Mm)) (hr25 : ∀ (l0 : Nat) (l2 : Int32) (l3 : Int32) (m : ab_Mm) (z : (Unit × ab_Mm)), r25 l0 l2 l3 m = some z → ab_W l g cX12_setsPrices RX12 6 none [] false (d2 + 1) (.inl none) z.2 25 [(0, .ref l0), (2, .int l2), (3, .int l3)] [] m) (l0 : Nat) (l2 : Int32) (l3 : Int32) (s0 : Nat) (s1 : Int32) (s2 : Int64) (m0 : ab_Mm) (z : (Unit × ab_Mm)) (h : bb_X12_setsPrices_97 r25 l0 l2 l3 s0 s1 s2 m0 = some z) : ab_W l g cX12_setsPrices RX12 6 none [] false (d2 + 1) (.inl none) z.2 97 [(0, .ref l0), (2, .int l2), (3, .int l3)] [.long s2, .int s1, .ref s0] m0 := by
  unfold bb_X12_setsPrices_97 at h
  refine ru_lastore h dX12_setsPrices_97 ?_
  intro m1 h
  refine ru_iinc dX12_setsPrices_98 (by decide) rfl (ab_inc kc_i_1) <| ru_goto (tgt := 25) dX12_setsPrices_101 (by decide) <| ?_
  exact ru_pick [0, 2, 3] rfl (hr25 _ _ _ _ _ h)
theorem tbb_X12_setsPrices_25 {l : Launch} {g : ab_G} (hl0 : l.stackTraces = false) {d2 : Nat} (hd : 4 ≤ d2 + 1)   : ∀ (n : Nat) (l0 : Nat) (l2 : Int32) (l3 : Int32) (m0 : ab_Mm) (z : (Unit × ab_Mm)), bb_X12_setsPrices_25  n l0 l2 l3 m0 = some z → ab_W l g cX12_setsPrices RX12 6 none [] false (d2 + 1) (.inl none) z.2 25 [(0, .ref l0), (2, .int l2), (3, .int l3)] [] m0 := by
  intro n
  induction n with
  | zero => intro l0 l2 l3 m0 z h; cases h
  | succ n ih =>
    intro l0 l2 l3 m0 z h
    rw [bb_X12_setsPrices_25] at h
    refine ru_iload_n (i := 3) dX12_setsPrices_25 rfl rfl <| ru_aload_n (i := 0) dX12_setsPrices_26 rfl rfl <| ?_
    refine ru_getR h dX12_setsPrices_27 lk_X12_13 ?_
    intro v1 h
    refine ru_iconst dX12_setsPrices_30 kc_i_1 <| ?_
    refine ru_iaload h dX12_setsPrices_31 ?_
    intro v2 h
    refine ru_icmp_ge (tgt := 104) dX12_setsPrices_32 (by decide) (fun hc => ?_) (fun hc => ?_)
    · rw [if_pos hc] at h
      cases h
      exact ru_ret (v := none) ⟨rfl, dX12_setsPrices_104⟩
    · rw [if_neg hc] at h
      refine ru_aload_n (i := 0) dX12_setsPrices_35 rfl rfl <| ?_
      refine ru_getR h dX12_setsPrices_36 lk_X12_20 ?_
      intro v3 h
      refine ru_iconst dX12_setsPrices_39 kc_i_3 <| ru_iload_n (i := 3) dX12_setsPrices_40 rfl rfl <| ru_imul dX12_setsPrices_41 <| ru_iconst dX12_setsPrices_42 kc_i_2 <| ru_iadd dX12_setsPrices_43 <| ?_
      refine ru_iaload h dX12_setsPrices_44 ?_
      intro v4 h
      refine ru_istore dX12_setsPrices_45 (by decide) <| ru_iload dX12_setsPrices_47 rfl <| ru_aload_n (i := 0) dX12_setsPrices_49 rfl rfl <| ?_
      refine ru_getR h dX12_setsPrices_50 lk_X12_13 ?_
      intro v5 h
      refine ru_iconst dX12_setsPrices_53 kc_i_4 <| ?_
      refine ru_iaload h dX12_setsPrices_54 ?_
      intro v6 h
      refine ru_aload_n (i := 0) dX12_setsPrices_55 rfl rfl <| ?_
      refine ru_getR h dX12_setsPrices_56 lk_X12_13 ?_
      intro v7 h
      refine ru_bipush dX12_setsPrices_59 kc_b_6 <| ?_
      refine ru_iaload h dX12_setsPrices_61 ?_
      intro v8 h
      refine ru_iload_n (i := 2) dX12_setsPrices_62 rfl rfl <| ru_imul dX12_setsPrices_63 <| ru_bipush dX12_setsPrices_64 kc_b_100 <| ?_
      rcases ab_iff h with ⟨hc, h⟩ | ⟨hc, h⟩
      · cases h
      refine ru_idiv dX12_setsPrices_66 hc ?_
      refine ru_iadd dX12_setsPrices_67 <| ru_imul dX12_setsPrices_68 <| ru_bipush dX12_setsPrices_69 kc_b_100 <| ?_
      rcases ab_iff h with ⟨hc, h⟩ | ⟨hc, h⟩
      · cases h
      refine ru_idiv dX12_setsPrices_71 hc ?_
      refine ru_istore dX12_setsPrices_72 (by decide) <| ru_aload_n (i := 0) dX12_setsPrices_74 rfl rfl <| ?_
      refine ru_getR h dX12_setsPrices_75 lk_X12_7 ?_
      intro v9 h
      refine ru_iconst dX12_setsPrices_78 kc_i_2 <| ru_iload_n (i := 3) dX12_setsPrices_79 rfl rfl <| ru_iadd dX12_setsPrices_80 <| ru_iload dX12_setsPrices_81 rfl <| ru_iload dX12_setsPrices_83 rfl <| ?_
      refine ru_icmp_ge (tgt := 94) dX12_setsPrices_85 (by decide) (fun hc => ?_) (fun hc => ?_)
      · rw [if_pos hc] at h
        refine ru_iload dX12_setsPrices_94 rfl <| ru_i2l dX12_setsPrices_96 <| ?_
        exact ru_pick [0, 2, 3] rfl (tbb_X12_setsPrices_97 hl0 hd _ ih _ _ _ _ _ _ _ _ h)
      · rw [if_neg hc] at h
        refine ru_iload dX12_setsPrices_88 rfl <| ru_i2l dX12_setsPrices_90 <| ru_goto (tgt := 97) dX12_setsPrices_91 (by decide) <| ?_
        exact ru_pick [0, 2, 3] rfl (tbb_X12_setsPrices_97 hl0 hd _ ih _ _ _ _ _ _ _ _ h)
theorem tbb_X12_setsPrices_22 {l : Launch} {g : ab_G} (hl0 : l.stackTraces = false) {d2 : Nat} (hd : 4 ≤ d2 + 1)   (l0 : Nat) (s0 : Int32) (m0 : ab_Mm) (z : (Unit × ab_Mm)) (h : bb_X12_setsPrices_22  l0 s0 m0 = some z) : ab_W l g cX12_setsPrices RX12 6 none [] false (d2 + 1) (.inl none) z.2 22 [(0, .ref l0)] [.int s0] m0 := by
  unfold bb_X12_setsPrices_22 at h
  refine ru_istore_n (i := 2) dX12_setsPrices_22 rfl (by decide) <| ru_iconst dX12_setsPrices_23 kc_i_0 <| ru_istore_n (i := 3) dX12_setsPrices_24 rfl (by decide) <| ?_
  exact ru_pick [0, 2, 3] rfl (tbb_X12_setsPrices_25 hl0 hd   _ _ _ _ _ _ h)
theorem te_X12_setsPrices {l : Launch} {g : ab_G} (hl0 : l.stackTraces = false) {d2 : Nat} (hd : 4 ≤ d2 + 1)   (l0 : Nat) (m0 : ab_Mm) (z : (Unit × ab_Mm)) (h : dd_X12_setsPrices  l0 m0 = some z) : ab_W l g cX12_setsPrices RX12 6 none [] false (d2 + 1) (.inl none) z.2 0 [(0, .ref l0)] [] m0 := by
  unfold dd_X12_setsPrices at h
  refine ru_aload_n (i := 0) dX12_setsPrices_0 rfl rfl <| ?_
  obtain ⟨_, hrc, h⟩ := Option.bind_eq_some_iff.mp h
  obtain ⟨q1, hq1, h⟩ := Option.bind_eq_some_iff.mp h
  refine ru_callV (tm_X12_allCpu hl0 (by omega) hq1) dX12_setsPrices_1 rfl pm_X12_279 mf_X12_allCpu (ab_rcv_of hrc rfl) rfl rfl (Nat.le_of_ble_eq_true rfl) ?_
  refine ru_istore_n (i := 1) dX12_setsPrices_4 rfl (by decide) <| ru_iload_n (i := 1) dX12_setsPrices_5 rfl rfl <| ?_
  refine ru_if_ne (tgt := 13) dX12_setsPrices_6 (by decide) (fun hc => ?_) (fun hc => ?_)
  · rw [if_neg hc] at h
    refine ru_bipush dX12_setsPrices_13 kc_b_100 <| ru_aload_n (i := 0) dX12_setsPrices_15 rfl rfl <| ?_
    obtain ⟨_, hrc, h⟩ := Option.bind_eq_some_iff.mp h
    obtain ⟨q2, hq2, h⟩ := Option.bind_eq_some_iff.mp h
    refine ru_callV (tm_X12_loadCpu hl0 (by omega) hq2) dX12_setsPrices_16 rfl pm_X12_282 mf_X12_loadCpu (ab_rcv_of hrc rfl) rfl rfl (Nat.le_of_ble_eq_true rfl) ?_
    refine ru_imul dX12_setsPrices_19 <| ru_iload_n (i := 1) dX12_setsPrices_20 rfl rfl <| ?_
    rcases ab_iff h with ⟨hc, h⟩ | ⟨hc, h⟩
    · cases h
    refine ru_idiv dX12_setsPrices_21 hc ?_
    exact ru_pick [0] rfl (tbb_X12_setsPrices_22 hl0 hd   _ _ _ _ h)
  · rw [if_pos hc] at h
    refine ru_iconst dX12_setsPrices_9 kc_i_0 <| ru_goto (tgt := 22) dX12_setsPrices_10 (by decide) <| ?_
    exact ru_pick [0] rfl (tbb_X12_setsPrices_22 hl0 hd   _ _ _ _ h)
theorem tm_X12_setsPrices {l : Launch} {g : ab_G} (hl0 : l.stackTraces = false) {d : Nat} (hd : 4 ≤ d) {l0 : Nat} {m : ab_Mm} {z : (Unit × ab_Mm)} (h : dd_X12_setsPrices l0 m = some z) : ab_Met l g yX12_setsPrices cX12_setsPrices 6 none [] d [.ref l0] m (.inl none) z.2 := by
  obtain ⟨d2, rfl⟩ : ∃ d2, d = d2 + 1 := ⟨d - 1, by omega⟩
  exact ab_of hl0 (by decide +kernel) (Nat.le_of_ble_eq_true rfl) (fun q => by cases q) rfl (te_X12_setsPrices hl0 hd _ _ _ h)
theorem tbb_X12_begins_23 {l : Launch} {g : ab_G} (hl0 : l.stackTraces = false) {d2 : Nat} (hd : 5 ≤ d2 + 1)   : ∀ (n : Nat) (l0 : Nat) (l1 : Int32) (m0 : ab_Mm) (z : (Unit × ab_Mm)), bb_X12_begins_23  n l0 l1 m0 = some z → ab_W l g cX12_begins RX12 2 none [] false (d2 + 1) (.inl none) z.2 23 [(0, .ref l0), (1, .int l1)] [] m0 := by
  intro n
  induction n with
  | zero => intro l0 l1 m0 z h; cases h
  | succ n ih =>
    intro l0 l1 m0 z h
    rw [bb_X12_begins_23] at h
    refine ru_iload_n (i := 1) dX12_begins_23 rfl rfl <| ru_bipush dX12_begins_24 kc_b_12 <| ?_
    refine ru_icmp_ge (tgt := 48) dX12_begins_26 (by decide) (fun hc => ?_) (fun hc => ?_)
    · rw [if_pos hc] at h
      refine ru_aload_n (i := 0) dX12_begins_48 rfl rfl <| ?_
      obtain ⟨_, hrc, h⟩ := Option.bind_eq_some_iff.mp h
      obtain ⟨q1, hq1, h⟩ := Option.bind_eq_some_iff.mp h
      refine ru_callV (tm_X12_setsPrices hl0 (by omega) hq1) dX12_begins_49 rfl pm_X12_258 mf_X12_setsPrices (ab_rcv_of hrc rfl) rfl rfl (Nat.le_of_ble_eq_true rfl) ?_
      refine ru_aload_n (i := 0) dX12_begins_52 rfl rfl <| ru_iconst dX12_begins_53 kc_i_0 <| ?_
      refine ru_putI h dX12_begins_54 lk_X12_261 ?_
      intro m2 h
      refine ru_aload_n (i := 0) dX12_begins_57 rfl rfl <| ?_
      refine ru_getR h dX12_begins_58 lk_X12_70 ?_
      intro v3 h
      refine ru_iconst dX12_begins_61 kc_i_0 <| ru_iconst dX12_begins_62 kc_i_0 <| ?_
      refine ru_zastore h dX12_begins_63 ?_
      intro m4 h
      refine ru_aload_n (i := 0) dX12_begins_64 rfl rfl <| ?_
      refine ru_getR h dX12_begins_65 lk_X12_70 ?_
      intro v5 h
      refine ru_iconst dX12_begins_68 kc_i_1 <| ru_iconst dX12_begins_69 kc_i_0 <| ?_
      refine ru_zastore h dX12_begins_70 ?_
      intro m6 h
      cases h
      exact ru_ret (v := none) ⟨rfl, dX12_begins_71⟩
    · rw [if_neg hc] at h
      refine ru_aload_n (i := 0) dX12_begins_29 rfl rfl <| ?_
      refine ru_getR h dX12_begins_30 lk_X12_7 ?_
      intro v7 h
      refine ru_iload_n (i := 1) dX12_begins_33 rfl rfl <| ru_iconst dX12_begins_34 kc_i_0 <| ?_
      obtain ⟨q8, hq8, h⟩ := Option.bind_eq_some_iff.mp h
      refine ru_callS (tm_X12_of hl0 (by omega) hq8) dX12_begins_35 rfl pm_X12_238 mf_X12_of rfl rfl (Nat.le_of_ble_eq_true rfl) ?_
      refine ru_ldc2_w dX12_begins_38 pk_X12_256 <| ?_
      refine ru_lastore h dX12_begins_41 ?_
      intro m9 h
      refine ru_iinc dX12_begins_42 (by decide) rfl (ab_inc kc_i_1) <| ru_goto (tgt := 23) dX12_begins_45 (by decide) <| ?_
      exact ru_pick [0, 1] rfl (ih _ _ _ _ h)
theorem tbb_X12_begins_2 {l : Launch} {g : ab_G} (hl0 : l.stackTraces = false) {d2 : Nat} (hd : 5 ≤ d2 + 1)   : ∀ (n : Nat) (l0 : Nat) (l1 : Int32) (m0 : ab_Mm) (z : (Unit × ab_Mm)), bb_X12_begins_2  n l0 l1 m0 = some z → ab_W l g cX12_begins RX12 2 none [] false (d2 + 1) (.inl none) z.2 2 [(0, .ref l0), (1, .int l1)] [] m0 := by
  intro n
  induction n with
  | zero => intro l0 l1 m0 z h; cases h
  | succ n ih =>
    intro l0 l1 m0 z h
    rw [bb_X12_begins_2] at h
    refine ru_iload_n (i := 1) dX12_begins_2 rfl rfl <| ru_bipush dX12_begins_3 kc_b_116 <| ?_
    refine ru_icmp_ge (tgt := 21) dX12_begins_5 (by decide) (fun hc => ?_) (fun hc => ?_)
    · rw [if_pos hc] at h
      refine ru_iconst dX12_begins_21 kc_i_0 <| ru_istore_n (i := 1) dX12_begins_22 rfl (by decide) <| ?_
      exact ru_pick [0, 1] rfl (tbb_X12_begins_23 hl0 hd   _ _ _ _ _ h)
    · rw [if_neg hc] at h
      refine ru_aload_n (i := 0) dX12_begins_8 rfl rfl <| ?_
      refine ru_getR h dX12_begins_9 lk_X12_7 ?_
      intro v1 h
      refine ru_iload_n (i := 1) dX12_begins_12 rfl rfl <| ru_lconst dX12_begins_13 (v := 0) rfl <| ?_
      refine ru_lastore h dX12_begins_14 ?_
      intro m2 h
      refine ru_iinc dX12_begins_15 (by decide) rfl (ab_inc kc_i_1) <| ru_goto (tgt := 2) dX12_begins_18 (by decide) <| ?_
      exact ru_pick [0, 1] rfl (ih _ _ _ _ h)
theorem te_X12_begins {l : Launch} {g : ab_G} (hl0 : l.stackTraces = false) {d2 : Nat} (hd : 5 ≤ d2 + 1)   (l0 : Nat) (m0 : ab_Mm) (z : (Unit × ab_Mm)) (h : dd_X12_begins  l0 m0 = some z) : ab_W l g cX12_begins RX12 2 none [] false (d2 + 1) (.inl none) z.2 0 [(0, .ref l0)] [] m0 := by
  unfold dd_X12_begins at h
  refine ru_iconst dX12_begins_0 kc_i_0 <| ru_istore_n (i := 1) dX12_begins_1 rfl (by decide) <| ?_
  exact ru_pick [0, 1] rfl (tbb_X12_begins_2 hl0 hd   _ _ _ _ _ h)
theorem tm_X12_begins {l : Launch} {g : ab_G} (hl0 : l.stackTraces = false) {d : Nat} (hd : 5 ≤ d) {l0 : Nat} {m : ab_Mm} {z : (Unit × ab_Mm)} (h : dd_X12_begins l0 m = some z) : ab_Met l g yX12_begins cX12_begins 2 none [] d [.ref l0] m (.inl none) z.2 := by
  obtain ⟨d2, rfl⟩ : ∃ d2, d = d2 + 1 := ⟨d - 1, by omega⟩
  exact ab_of hl0 (by decide +kernel) (Nat.le_of_ble_eq_true rfl) (fun q => by cases q) rfl (te_X12_begins hl0 hd _ _ _ h)
theorem te_X12_init {l : Launch} {g : ab_G} (hl0 : l.stackTraces = false) {d2 : Nat} (hd : 6 ≤ d2 + 1)   (l0 : Nat) (m0 : ab_Mm) (z : (Unit × ab_Mm)) (h : dd_X12_init  l0 m0 = some z) : ab_W l g cX12_init RX12 1 none [] true (d2 + 1) (.inl none) z.2 0 [(0, .ref l0)] [] m0 := by
  unfold dd_X12_init at h
  refine ru_aload_n (i := 0) dX12_init_0 rfl rfl <| ru_objInit dX12_init_1 ⟨pm_X12_1, po_inst, po_code⟩ (Nat.le_of_ble_eq_true rfl) <| ru_aload_n (i := 0) dX12_init_4 rfl rfl <| ru_bipush dX12_init_5 kc_b_116 <| ?_
  refine ru_newJ h dX12_init_7 fa_long ?_
  intro q1 h
  refine ru_putR h dX12_init_9 lk_X12_7 (fun _ => ⟨rfl, rfl⟩) rfl (fun q hq => by cases hq; rfl) (fun q hq => by cases hq; exact pf_X12_7) ?_
  intro m2 h
  refine ru_aload_n (i := 0) dX12_init_12 rfl rfl <| ru_bipush dX12_init_13 kc_b_14 <| ?_
  refine ru_newI h dX12_init_15 fa_int ?_
  intro q3 h
  refine ru_putR h dX12_init_17 lk_X12_13 (fun _ => ⟨rfl, rfl⟩) rfl (fun q hq => by cases hq; rfl) (fun q hq => by cases hq; exact pf_X12_13) ?_
  intro m4 h
  refine ru_aload_n (i := 0) dX12_init_20 rfl rfl <| ru_bipush dX12_init_21 kc_b_32 <| ?_
  refine ru_newI h dX12_init_23 fa_int ?_
  intro q5 h
  refine ru_putR h dX12_init_25 lk_X12_17 (fun _ => ⟨rfl, rfl⟩) rfl (fun q hq => by cases hq; rfl) (fun q hq => by cases hq; exact pf_X12_17) ?_
  intro m6 h
  refine ru_aload_n (i := 0) dX12_init_28 rfl rfl <| ru_bipush dX12_init_29 kc_b_36 <| ?_
  refine ru_newI h dX12_init_31 fa_int ?_
  intro q7 h
  refine ru_putR h dX12_init_33 lk_X12_20 (fun _ => ⟨rfl, rfl⟩) rfl (fun q hq => by cases hq; rfl) (fun q hq => by cases hq; exact pf_X12_20) ?_
  intro m8 h
  refine ru_aload_n (i := 0) dX12_init_36 rfl rfl <| ru_bipush dX12_init_37 kc_b_12 <| ?_
  refine ru_newI h dX12_init_39 fa_int ?_
  intro q9 h
  refine ru_putR h dX12_init_41 lk_X12_23 (fun _ => ⟨rfl, rfl⟩) rfl (fun q hq => by cases hq; rfl) (fun q hq => by cases hq; exact pf_X12_23) ?_
  intro m10 h
  refine ru_aload_n (i := 0) dX12_init_44 rfl rfl <| ru_bipush dX12_init_45 kc_b_96 <| ?_
  refine ru_newI h dX12_init_47 fa_int ?_
  intro q11 h
  refine ru_putR h dX12_init_49 lk_X12_26 (fun _ => ⟨rfl, rfl⟩) rfl (fun q hq => by cases hq; rfl) (fun q hq => by cases hq; exact pf_X12_26) ?_
  intro m12 h
  refine ru_aload_n (i := 0) dX12_init_52 rfl rfl <| ru_iconst dX12_init_53 kc_i_2 <| ?_
  refine ru_newI h dX12_init_54 fa_int ?_
  intro q13 h
  refine ru_putR h dX12_init_56 lk_X12_29 (fun _ => ⟨rfl, rfl⟩) rfl (fun q hq => by cases hq; rfl) (fun q hq => by cases hq; exact pf_X12_29) ?_
  intro m14 h
  refine ru_aload_n (i := 0) dX12_init_59 rfl rfl <| ru_sipush dX12_init_60 kc_s_1640 <| ?_
  refine ru_newI h dX12_init_63 fa_int ?_
  intro q15 h
  refine ru_putR h dX12_init_65 lk_X12_32 (fun _ => ⟨rfl, rfl⟩) rfl (fun q hq => by cases hq; rfl) (fun q hq => by cases hq; exact pf_X12_32) ?_
  intro m16 h
  refine ru_aload_n (i := 0) dX12_init_68 rfl rfl <| ru_sipush dX12_init_69 kc_s_800 <| ?_
  refine ru_newB h dX12_init_72 fa_byte ?_
  intro q17 h
  refine ru_putR h dX12_init_74 lk_X12_35 (fun _ => ⟨rfl, rfl⟩) rfl (fun q hq => by cases hq; rfl) (fun q hq => by cases hq; exact pf_X12_35) ?_
  intro m18 h
  refine ru_aload_n (i := 0) dX12_init_77 rfl rfl <| ru_iconst dX12_init_78 kc_i_m1 <| ?_
  refine ru_putI h dX12_init_79 lk_X12_39 ?_
  intro m19 h
  refine ru_aload_n (i := 0) dX12_init_82 rfl rfl <| ru_bipush dX12_init_83 kc_b_40 <| ?_
  refine ru_newI h dX12_init_85 fa_int ?_
  intro q20 h
  refine ru_putR h dX12_init_87 lk_X12_43 (fun _ => ⟨rfl, rfl⟩) rfl (fun q hq => by cases hq; rfl) (fun q hq => by cases hq; exact pf_X12_43) ?_
  intro m21 h
  refine ru_aload_n (i := 0) dX12_init_90 rfl rfl <| ru_sipush dX12_init_91 kc_s_4096 <| ?_
  refine ru_newI h dX12_init_94 fa_int ?_
  intro q22 h
  refine ru_putR h dX12_init_96 lk_X12_46 (fun _ => ⟨rfl, rfl⟩) rfl (fun q hq => by cases hq; rfl) (fun q hq => by cases hq; exact pf_X12_46) ?_
  intro m23 h
  refine ru_aload_n (i := 0) dX12_init_99 rfl rfl <| ru_sipush dX12_init_100 kc_s_4096 <| ?_
  refine ru_newI h dX12_init_103 fa_int ?_
  intro q24 h
  refine ru_putR h dX12_init_105 lk_X12_49 (fun _ => ⟨rfl, rfl⟩) rfl (fun q hq => by cases hq; rfl) (fun q hq => by cases hq; exact pf_X12_49) ?_
  intro m25 h
  refine ru_aload_n (i := 0) dX12_init_108 rfl rfl <| ru_sipush dX12_init_109 kc_s_4096 <| ?_
  refine ru_newI h dX12_init_112 fa_int ?_
  intro q26 h
  refine ru_putR h dX12_init_114 lk_X12_52 (fun _ => ⟨rfl, rfl⟩) rfl (fun q hq => by cases hq; rfl) (fun q hq => by cases hq; exact pf_X12_52) ?_
  intro m27 h
  refine ru_aload_n (i := 0) dX12_init_117 rfl rfl <| ru_sipush dX12_init_118 kc_s_4096 <| ?_
  refine ru_newI h dX12_init_121 fa_int ?_
  intro q28 h
  refine ru_putR h dX12_init_123 lk_X12_55 (fun _ => ⟨rfl, rfl⟩) rfl (fun q hq => by cases hq; rfl) (fun q hq => by cases hq; exact pf_X12_55) ?_
  intro m29 h
  refine ru_aload_n (i := 0) dX12_init_126 rfl rfl <| ru_bipush dX12_init_127 kc_b_12 <| ?_
  refine ru_newI h dX12_init_129 fa_int ?_
  intro q30 h
  refine ru_putR h dX12_init_131 lk_X12_58 (fun _ => ⟨rfl, rfl⟩) rfl (fun q hq => by cases hq; rfl) (fun q hq => by cases hq; exact pf_X12_58) ?_
  intro m31 h
  refine ru_aload_n (i := 0) dX12_init_134 rfl rfl <| ru_bipush dX12_init_135 kc_b_116 <| ?_
  refine ru_newJ h dX12_init_137 fa_long ?_
  intro q32 h
  refine ru_putR h dX12_init_139 lk_X12_61 (fun _ => ⟨rfl, rfl⟩) rfl (fun q hq => by cases hq; rfl) (fun q hq => by cases hq; exact pf_X12_61) ?_
  intro m33 h
  refine ru_aload_n (i := 0) dX12_init_142 rfl rfl <| ru_sipush dX12_init_143 kc_s_1160 <| ?_
  refine ru_newJ h dX12_init_146 fa_long ?_
  intro q34 h
  refine ru_putR h dX12_init_148 lk_X12_64 (fun _ => ⟨rfl, rfl⟩) rfl (fun q hq => by cases hq; rfl) (fun q hq => by cases hq; exact pf_X12_64) ?_
  intro m35 h
  refine ru_aload_n (i := 0) dX12_init_151 rfl rfl <| ru_sipush dX12_init_152 kc_s_232 <| ?_
  refine ru_newJ h dX12_init_155 fa_long ?_
  intro q36 h
  refine ru_putR h dX12_init_157 lk_X12_67 (fun _ => ⟨rfl, rfl⟩) rfl (fun q hq => by cases hq; rfl) (fun q hq => by cases hq; exact pf_X12_67) ?_
  intro m37 h
  refine ru_aload_n (i := 0) dX12_init_160 rfl rfl <| ru_iconst dX12_init_161 kc_i_2 <| ?_
  refine ru_newZ h dX12_init_162 fa_boolean ?_
  intro q38 h
  refine ru_putR h dX12_init_164 lk_X12_70 (fun _ => ⟨rfl, rfl⟩) rfl (fun q hq => by cases hq; rfl) (fun q hq => by cases hq; exact pf_X12_70) ?_
  intro m39 h
  refine ru_aload_n (i := 0) dX12_init_167 rfl rfl <| ?_
  obtain ⟨_, hrc, h⟩ := Option.bind_eq_some_iff.mp h
  obtain ⟨q40, hq40, h⟩ := Option.bind_eq_some_iff.mp h
  refine ru_callV (tm_X12_clearDraft hl0 (by omega) hq40) dX12_init_168 rfl pm_X12_74 mf_X12_clearDraft (ab_rcv_of hrc rfl) rfl rfl (Nat.le_of_ble_eq_true rfl) ?_
  refine ru_aload_n (i := 0) dX12_init_171 rfl rfl <| ?_
  obtain ⟨_, hrc, h⟩ := Option.bind_eq_some_iff.mp h
  obtain ⟨q41, hq41, h⟩ := Option.bind_eq_some_iff.mp h
  refine ru_callV (tm_X12_liftsAll hl0 (by omega) hq41) dX12_init_172 rfl pm_X12_77 mf_X12_liftsAll (ab_rcv_of hrc rfl) rfl rfl (Nat.le_of_ble_eq_true rfl) ?_
  refine ru_aload_n (i := 0) dX12_init_175 rfl rfl <| ?_
  obtain ⟨_, hrc, h⟩ := Option.bind_eq_some_iff.mp h
  obtain ⟨q42, hq42, h⟩ := Option.bind_eq_some_iff.mp h
  refine ru_callV (tm_X12_begins hl0 (by omega) hq42) dX12_init_176 rfl pm_X12_80 mf_X12_begins (ab_rcv_of hrc rfl) rfl rfl (Nat.le_of_ble_eq_true rfl) ?_
  cases h
  exact ru_ret (v := none) ⟨rfl, dX12_init_179⟩
theorem tm_X12_init {l : Launch} {g : ab_G} (hl0 : l.stackTraces = false) {d : Nat} (hd : 6 ≤ d) {l0 : Nat} {m : ab_Mm} {z : (Unit × ab_Mm)} (h : dd_X12_init l0 m = some z) : ab_Met l g yX12_init cX12_init 1 none [] d [.ref l0] m (.inl none) z.2 := by
  obtain ⟨d2, rfl⟩ : ∃ d2, d = d2 + 1 := ⟨d - 1, by omega⟩
  exact ab_of hl0 (by decide +kernel) (Nat.le_of_ble_eq_true rfl) (fun _ => rfl) rfl (te_X12_init hl0 hd _ _ _ h)
theorem te_X12_thrown {l : Launch} {g : ab_G} (hl0 : l.stackTraces = false) {d2 : Nat} (hd : 1 ≤ d2 + 1)   (l0 : Nat) (m0 : ab_Mm) (z : (Int32 × ab_Mm)) (h : dd_X12_thrown  l0 m0 = some z) : ab_W l g cX12_thrown RX12 1 (some .int) [] false (d2 + 1) (.inl (some (.int z.1))) z.2 0 [(0, .ref l0)] [] m0 := by
  unfold dd_X12_thrown at h
  refine ru_aload_n (i := 0) dX12_thrown_0 rfl rfl <| ?_
  refine ru_getI h dX12_thrown_1 lk_X12_83 ?_
  intro v1 h
  cases h
  exact ru_ret (v := some (.int _)) ⟨_, rfl, rfl, dX12_thrown_4⟩
theorem tm_X12_thrown {l : Launch} {g : ab_G} (hl0 : l.stackTraces = false) {d : Nat} (hd : 1 ≤ d) {l0 : Nat} {m : ab_Mm} {z : (Int32 × ab_Mm)} (h : dd_X12_thrown l0 m = some z) : ab_Met l g yX12_thrown cX12_thrown 1 (some .int) [] d [.ref l0] m (.inl (some (.int z.1))) z.2 := by
  obtain ⟨d2, rfl⟩ : ∃ d2, d = d2 + 1 := ⟨d - 1, by omega⟩
  exact ab_of hl0 (by decide +kernel) (Nat.le_of_ble_eq_true rfl) (fun q => by cases q) rfl (te_X12_thrown hl0 hd _ _ _ h)
theorem tbb_X12_within_18 {l : Launch} {g : ab_G} (hl0 : l.stackTraces = false) {d2 : Nat} (hd : 1 ≤ d2 + 1)   (s0 : Int32) (m0 : ab_Mm) (z : (Int32 × ab_Mm)) (h : bb_X12_within_18  s0 m0 = some z) : ab_W l g cX12_within RX12 6 (some .boolean) [] false (d2 + 1) (.inl (some (.int z.1))) z.2 18 [] [.int s0] m0 := by
  unfold bb_X12_within_18 at h
  rcases ab_iff h with ⟨hc, h⟩ | ⟨hc, h⟩
  · cases h
  cases h
  exact ru_ret (v := some (.int _)) ⟨_, rfl, congrArg Value.int (Classical.not_not.mp hc), dX12_within_18⟩
theorem tbb_X12_within_17 {l : Launch} {g : ab_G} (hl0 : l.stackTraces = false) {d2 : Nat} (hd : 1 ≤ d2 + 1)    (m0 : ab_Mm) (z : (Int32 × ab_Mm)) (h : bb_X12_within_17   m0 = some z) : ab_W l g cX12_within RX12 6 (some .boolean) [] false (d2 + 1) (.inl (some (.int z.1))) z.2 17 [] [] m0 := by
  unfold bb_X12_within_17 at h
  refine ru_iconst dX12_within_17 kc_i_0 <| ?_
  exact ru_pick [] rfl (tbb_X12_within_18 hl0 hd   _ _ _ h)
theorem te_X12_within {l : Launch} {g : ab_G} (hl0 : l.stackTraces = false) {d2 : Nat} (hd : 1 ≤ d2 + 1)   (l0 : Int64) (l2 : Int64) (l4 : Int64) (m0 : ab_Mm) (z : (Int32 × ab_Mm)) (h : dd_X12_within  l0 l2 l4 m0 = some z) : ab_W l g cX12_within RX12 6 (some .boolean) [] false (d2 + 1) (.inl (some (.int z.1))) z.2 0 [(0, .long l0), (2, .long l2), (4, .long l4)] [] m0 := by
  unfold dd_X12_within at h
  refine ru_lload_n (i := 0) dX12_within_0 rfl rfl <| ru_lload_n (i := 2) dX12_within_1 rfl rfl <| ru_lcmp dX12_within_2 <| ?_
  refine ru_if_lt (tgt := 17) dX12_within_3 (by decide) (fun hc => ?_) (fun hc => ?_)
  · rw [if_pos hc] at h
    exact ru_pick [] rfl (tbb_X12_within_17 hl0 hd    _ _ h)
  · rw [if_neg hc] at h
    refine ru_lload_n (i := 0) dX12_within_6 rfl rfl <| ru_lload dX12_within_7 rfl <| ru_lcmp dX12_within_9 <| ?_
    refine ru_if_gt (tgt := 17) dX12_within_10 (by decide) (fun hc => ?_) (fun hc => ?_)
    · rw [if_pos hc] at h
      exact ru_pick [] rfl (tbb_X12_within_17 hl0 hd    _ _ h)
    · rw [if_neg hc] at h
      refine ru_iconst dX12_within_13 kc_i_1 <| ru_goto (tgt := 18) dX12_within_14 (by decide) <| ?_
      exact ru_pick [] rfl (tbb_X12_within_18 hl0 hd   _ _ _ h)
theorem tm_X12_within {l : Launch} {g : ab_G} (hl0 : l.stackTraces = false) {d : Nat} (hd : 1 ≤ d) {l0 : Int64} {l2 : Int64} {l4 : Int64} {m : ab_Mm} {z : (Int32 × ab_Mm)} (h : dd_X12_within l0 l2 l4 m = some z) : ab_Met l g yX12_within cX12_within 6 (some .boolean) [] d [.long l0, .long l2, .long l4] m (.inl (some (.int z.1))) z.2 := by
  obtain ⟨d2, rfl⟩ : ∃ d2, d = d2 + 1 := ⟨d - 1, by omega⟩
  exact ab_of hl0 (by decide +kernel) (Nat.le_of_ble_eq_true rfl) (fun q => by cases q) rfl (te_X12_within hl0 hd _ _ _ _ _ h)
theorem tbb_X12_has_14 {l : Launch} {g : ab_G} (hl0 : l.stackTraces = false) {d2 : Nat} (hd : 1 ≤ d2 + 1)   (s0 : Int32) (m0 : ab_Mm) (z : (Int32 × ab_Mm)) (h : bb_X12_has_14  s0 m0 = some z) : ab_W l g cX12_has RX12 2 (some .boolean) [] false (d2 + 1) (.inl (some (.int z.1))) z.2 14 [] [.int s0] m0 := by
  unfold bb_X12_has_14 at h
  rcases ab_iff h with ⟨hc, h⟩ | ⟨hc, h⟩
  · cases h
  cases h
  exact ru_ret (v := some (.int _)) ⟨_, rfl, congrArg Value.int (Classical.not_not.mp hc), dX12_has_14⟩
theorem te_X12_has {l : Launch} {g : ab_G} (hl0 : l.stackTraces = false) {d2 : Nat} (hd : 1 ≤ d2 + 1)   (l0 : Int32) (l1 : Int32) (m0 : ab_Mm) (z : (Int32 × ab_Mm)) (h : dd_X12_has  l0 l1 m0 = some z) : ab_W l g cX12_has RX12 2 (some .boolean) [] false (d2 + 1) (.inl (some (.int z.1))) z.2 0 [(0, .int l0), (1, .int l1)] [] m0 := by
  unfold dd_X12_has at h
  refine ru_iload_n (i := 0) dX12_has_0 rfl rfl <| ru_iload_n (i := 1) dX12_has_1 rfl rfl <| ru_ishr dX12_has_2 <| ru_iconst dX12_has_3 kc_i_1 <| ru_iand dX12_has_4 <| ru_iconst dX12_has_5 kc_i_1 <| ?_
  refine ru_icmp_ne (tgt := 13) dX12_has_6 (by decide) (fun hc => ?_) (fun hc => ?_)
  · rw [if_neg hc] at h
    refine ru_iconst dX12_has_13 kc_i_0 <| ?_
    exact ru_pick [] rfl (tbb_X12_has_14 hl0 hd   _ _ _ h)
  · rw [if_pos hc] at h
    refine ru_iconst dX12_has_9 kc_i_1 <| ru_goto (tgt := 14) dX12_has_10 (by decide) <| ?_
    exact ru_pick [] rfl (tbb_X12_has_14 hl0 hd   _ _ _ h)
theorem tm_X12_has {l : Launch} {g : ab_G} (hl0 : l.stackTraces = false) {d : Nat} (hd : 1 ≤ d) {l0 : Int32} {l1 : Int32} {m : ab_Mm} {z : (Int32 × ab_Mm)} (h : dd_X12_has l0 l1 m = some z) : ab_Met l g yX12_has cX12_has 2 (some .boolean) [] d [.int l0, .int l1] m (.inl (some (.int z.1))) z.2 := by
  obtain ⟨d2, rfl⟩ : ∃ d2, d = d2 + 1 := ⟨d - 1, by omega⟩
  exact ab_of hl0 (by decide +kernel) (Nat.le_of_ble_eq_true rfl) (fun q => by cases q) rfl (te_X12_has hl0 hd _ _ _ _ h)
theorem tbb_X12_bits_4 {l : Launch} {g : ab_G} (hl0 : l.stackTraces = false) {d2 : Nat} (hd : 1 ≤ d2 + 1)   : ∀ (n : Nat) (l1 : Int32) (l2 : Int32) (m0 : ab_Mm) (z : (Int32 × ab_Mm)), bb_X12_bits_4  n l1 l2 m0 = some z → ab_W l g cX12_bits RX12 3 (some .int) [] false (d2 + 1) (.inl (some (.int z.1))) z.2 4 [(1, .int l1), (2, .int l2)] [] m0 := by
  intro n
  induction n with
  | zero => intro l1 l2 m0 z h; cases h
  | succ n ih =>
    intro l1 l2 m0 z h
    rw [bb_X12_bits_4] at h
    refine ru_iload_n (i := 2) dX12_bits_4 rfl rfl <| ?_
    refine ru_if_eq (tgt := 20) dX12_bits_5 (by decide) (fun hc => ?_) (fun hc => ?_)
    · rw [if_pos hc] at h
      refine ru_iload_n (i := 1) dX12_bits_20 rfl rfl <| ?_
      cases h
      exact ru_ret (v := some (.int _)) ⟨_, rfl, rfl, dX12_bits_21⟩
    · rw [if_neg hc] at h
      refine ru_iinc dX12_bits_8 (by decide) rfl (ab_inc kc_i_1) <| ru_iload_n (i := 2) dX12_bits_11 rfl rfl <| ru_iload_n (i := 2) dX12_bits_12 rfl rfl <| ru_iconst dX12_bits_13 kc_i_1 <| ru_isub dX12_bits_14 <| ru_iand dX12_bits_15 <| ru_istore_n (i := 2) dX12_bits_16 rfl (by decide) <| ru_goto (tgt := 4) dX12_bits_17 (by decide) <| ?_
      exact ru_pick [1, 2] rfl (ih _ _ _ _ h)
theorem te_X12_bits {l : Launch} {g : ab_G} (hl0 : l.stackTraces = false) {d2 : Nat} (hd : 1 ≤ d2 + 1)   (l0 : Int32) (m0 : ab_Mm) (z : (Int32 × ab_Mm)) (h : dd_X12_bits  l0 m0 = some z) : ab_W l g cX12_bits RX12 3 (some .int) [] false (d2 + 1) (.inl (some (.int z.1))) z.2 0 [(0, .int l0)] [] m0 := by
  unfold dd_X12_bits at h
  refine ru_iconst dX12_bits_0 kc_i_0 <| ru_istore_n (i := 1) dX12_bits_1 rfl (by decide) <| ru_iload_n (i := 0) dX12_bits_2 rfl rfl <| ru_istore_n (i := 2) dX12_bits_3 rfl (by decide) <| ?_
  exact ru_pick [1, 2] rfl (tbb_X12_bits_4 hl0 hd   _ _ _ _ _ h)
theorem tm_X12_bits {l : Launch} {g : ab_G} (hl0 : l.stackTraces = false) {d : Nat} (hd : 1 ≤ d) {l0 : Int32} {m : ab_Mm} {z : (Int32 × ab_Mm)} (h : dd_X12_bits l0 m = some z) : ab_Met l g yX12_bits cX12_bits 3 (some .int) [] d [.int l0] m (.inl (some (.int z.1))) z.2 := by
  obtain ⟨d2, rfl⟩ : ∃ d2, d = d2 + 1 := ⟨d - 1, by omega⟩
  exact ab_of hl0 (by decide +kernel) (Nat.le_of_ble_eq_true rfl) (fun q => by cases q) rfl (te_X12_bits hl0 hd _ _ _ h)
theorem tbb_X12_throwsIf_28 {l : Launch} {g : ab_G} (hl0 : l.stackTraces = false) {d2 : Nat} (hd : 1 ≤ d2 + 1)   (s0 : Int32) (m0 : ab_Mm) (z : (Int32 × ab_Mm)) (h : bb_X12_throwsIf_28  s0 m0 = some z) : ab_W l g cX12_throwsIf RX12 3 (some .boolean) [] false (d2 + 1) (.inl (some (.int z.1))) z.2 28 [] [.int s0] m0 := by
  unfold bb_X12_throwsIf_28 at h
  rcases ab_iff h with ⟨hc, h⟩ | ⟨hc, h⟩
  · cases h
  cases h
  exact ru_ret (v := some (.int _)) ⟨_, rfl, congrArg Value.int (Classical.not_not.mp hc), dX12_throwsIf_28⟩
theorem tbb_X12_throwsIf_16 {l : Launch} {g : ab_G} (hl0 : l.stackTraces = false) {d2 : Nat} (hd : 1 ≤ d2 + 1)   (l0 : Nat) (m0 : ab_Mm) (z : (Int32 × ab_Mm)) (h : bb_X12_throwsIf_16  l0 m0 = some z) : ab_W l g cX12_throwsIf RX12 3 (some .boolean) [] false (d2 + 1) (.inl (some (.int z.1))) z.2 16 [(0, .ref l0)] [] m0 := by
  unfold bb_X12_throwsIf_16 at h
  refine ru_aload_n (i := 0) dX12_throwsIf_16 rfl rfl <| ?_
  refine ru_getI h dX12_throwsIf_17 lk_X12_83 ?_
  intro v1 h
  refine ru_if_le (tgt := 27) dX12_throwsIf_20 (by decide) (fun hc => ?_) (fun hc => ?_)
  · rw [if_pos hc] at h
    refine ru_iconst dX12_throwsIf_27 kc_i_0 <| ?_
    exact ru_pick [] rfl (tbb_X12_throwsIf_28 hl0 hd   _ _ _ h)
  · rw [if_neg hc] at h
    refine ru_iconst dX12_throwsIf_23 kc_i_1 <| ru_goto (tgt := 28) dX12_throwsIf_24 (by decide) <| ?_
    exact ru_pick [] rfl (tbb_X12_throwsIf_28 hl0 hd   _ _ _ h)
theorem te_X12_throwsIf {l : Launch} {g : ab_G} (hl0 : l.stackTraces = false) {d2 : Nat} (hd : 1 ≤ d2 + 1)   (l0 : Nat) (l1 : Int32) (l2 : Int32) (m0 : ab_Mm) (z : (Int32 × ab_Mm)) (h : dd_X12_throwsIf  l0 l1 l2 m0 = some z) : ab_W l g cX12_throwsIf RX12 3 (some .boolean) [] false (d2 + 1) (.inl (some (.int z.1))) z.2 0 [(0, .ref l0), (1, .int l1), (2, .int l2)] [] m0 := by
  unfold dd_X12_throwsIf at h
  refine ru_aload_n (i := 0) dX12_throwsIf_0 rfl rfl <| ?_
  refine ru_getI h dX12_throwsIf_1 lk_X12_83 ?_
  intro v1 h
  refine ru_if_ne (tgt := 16) dX12_throwsIf_4 (by decide) (fun hc => ?_) (fun hc => ?_)
  · rw [if_neg hc] at h
    exact ru_pick [0] rfl (tbb_X12_throwsIf_16 hl0 hd   _ _ _ h)
  · rw [if_pos hc] at h
    refine ru_iload_n (i := 1) dX12_throwsIf_7 rfl rfl <| ?_
    refine ru_if_eq (tgt := 16) dX12_throwsIf_8 (by decide) (fun hc => ?_) (fun hc => ?_)
    · rw [if_pos hc] at h
      exact ru_pick [0] rfl (tbb_X12_throwsIf_16 hl0 hd   _ _ _ h)
    · rw [if_neg hc] at h
      refine ru_aload_n (i := 0) dX12_throwsIf_11 rfl rfl <| ru_iload_n (i := 2) dX12_throwsIf_12 rfl rfl <| ?_
      refine ru_putI h dX12_throwsIf_13 lk_X12_83 ?_
      intro m2 h
      exact ru_pick [0] rfl (tbb_X12_throwsIf_16 hl0 hd   _ _ _ h)
theorem tm_X12_throwsIf {l : Launch} {g : ab_G} (hl0 : l.stackTraces = false) {d : Nat} (hd : 1 ≤ d) {l0 : Nat} {l1 : Int32} {l2 : Int32} {m : ab_Mm} {z : (Int32 × ab_Mm)} (h : dd_X12_throwsIf l0 l1 l2 m = some z) : ab_Met l g yX12_throwsIf cX12_throwsIf 3 (some .boolean) [] d [.ref l0, .int l1, .int l2] m (.inl (some (.int z.1))) z.2 := by
  obtain ⟨d2, rfl⟩ : ∃ d2, d = d2 + 1 := ⟨d - 1, by omega⟩
  exact ab_of hl0 (by decide +kernel) (Nat.le_of_ble_eq_true rfl) (fun q => by cases q) rfl (te_X12_throwsIf hl0 hd _ _ _ _ _ h)
theorem tbb_X12_bytesOf_3 {l : Launch} {g : ab_G} (hl0 : l.stackTraces = false) {d2 : Nat} (hd : 1 ≤ d2 + 1)   : ∀ (n : Nat) (l0 : Nat) (l1 : Int32) (l2 : Int32) (m0 : ab_Mm) (z : (Unit × ab_Mm)), bb_X12_bytesOf_3  n l0 l1 l2 m0 = some z → ab_W l g cX12_bytesOf RX12 3 none [] false (d2 + 1) (.inl none) z.2 3 [(0, .ref l0), (1, .int l1), (2, .int l2)] [] m0 := by
  intro n
  induction n with
  | zero => intro l0 l1 l2 m0 z h; cases h
  | succ n ih =>
    intro l0 l1 l2 m0 z h
    rw [bb_X12_bytesOf_3] at h
    refine ru_iload_n (i := 2) dX12_bytesOf_3 rfl rfl <| ?_
    refine ru_if_lt (tgt := 36) dX12_bytesOf_4 (by decide) (fun hc => ?_) (fun hc => ?_)
    · rw [if_pos hc] at h
      cases h
      exact ru_ret (v := none) ⟨rfl, dX12_bytesOf_36⟩
    · rw [if_neg hc] at h
      refine ru_aload_n (i := 0) dX12_bytesOf_7 rfl rfl <| ?_
      refine ru_getR h dX12_bytesOf_8 lk_X12_35 ?_
      intro v1 h
      refine ru_aload_n (i := 0) dX12_bytesOf_11 rfl rfl <| ?_
      refine ru_getI h dX12_bytesOf_12 lk_X12_94 ?_
      intro v2 h
      refine ru_iload_n (i := 1) dX12_bytesOf_15 rfl rfl <| ru_iload_n (i := 2) dX12_bytesOf_16 rfl rfl <| ru_ishr dX12_bytesOf_17 <| ru_i2b dX12_bytesOf_18 <| ?_
      refine ru_bastore h dX12_bytesOf_19 ?_
      intro m3 h
      refine ru_aload_n (i := 0) dX12_bytesOf_20 rfl rfl <| ru_dup dX12_bytesOf_21 rfl <| ?_
      refine ru_getI h dX12_bytesOf_22 lk_X12_94 ?_
      intro v4 h
      refine ru_iconst dX12_bytesOf_25 kc_i_1 <| ru_iadd dX12_bytesOf_26 <| ?_
      refine ru_putI h dX12_bytesOf_27 lk_X12_94 ?_
      intro m5 h
      refine ru_iinc dX12_bytesOf_30 (by decide) rfl (ab_inc kc_i_m8) <| ru_goto (tgt := 3) dX12_bytesOf_33 (by decide) <| ?_
      exact ru_pick [0, 1, 2] rfl (ih _ _ _ _ _ h)
theorem te_X12_bytesOf {l : Launch} {g : ab_G} (hl0 : l.stackTraces = false) {d2 : Nat} (hd : 1 ≤ d2 + 1)   (l0 : Nat) (l1 : Int32) (m0 : ab_Mm) (z : (Unit × ab_Mm)) (h : dd_X12_bytesOf  l0 l1 m0 = some z) : ab_W l g cX12_bytesOf RX12 3 none [] false (d2 + 1) (.inl none) z.2 0 [(0, .ref l0), (1, .int l1)] [] m0 := by
  unfold dd_X12_bytesOf at h
  refine ru_bipush dX12_bytesOf_0 kc_b_24 <| ru_istore_n (i := 2) dX12_bytesOf_2 rfl (by decide) <| ?_
  exact ru_pick [0, 1, 2] rfl (tbb_X12_bytesOf_3 hl0 hd   _ _ _ _ _ _ h)
theorem tm_X12_bytesOf {l : Launch} {g : ab_G} (hl0 : l.stackTraces = false) {d : Nat} (hd : 1 ≤ d) {l0 : Nat} {l1 : Int32} {m : ab_Mm} {z : (Unit × ab_Mm)} (h : dd_X12_bytesOf l0 l1 m = some z) : ab_Met l g yX12_bytesOf cX12_bytesOf 3 none [] d [.ref l0, .int l1] m (.inl none) z.2 := by
  obtain ⟨d2, rfl⟩ : ∃ d2, d = d2 + 1 := ⟨d - 1, by omega⟩
  exact ab_of hl0 (by decide +kernel) (Nat.le_of_ble_eq_true rfl) (fun q => by cases q) rfl (te_X12_bytesOf hl0 hd _ _ _ _ h)
theorem te_X12_append {l : Launch} {g : ab_G} (hl0 : l.stackTraces = false) {d2 : Nat} (hd : 2 ≤ d2 + 1)   (l0 : Nat) (l1 : Int32) (l2 : Int32) (l3 : Int32) (l4 : Int32) (l5 : Int32) (m0 : ab_Mm) (z : (Int32 × ab_Mm)) (h : dd_X12_append  l0 l1 l2 l3 l4 l5 m0 = some z) : ab_W l g cX12_append RX12 6 (some .int) [] false (d2 + 1) (.inl (some (.int z.1))) z.2 0 [(0, .ref l0), (1, .int l1), (2, .int l2), (3, .int l3), (4, .int l4), (5, .int l5)] [] m0 := by
  unfold dd_X12_append at h
  refine ru_aload_n (i := 0) dX12_append_0 rfl rfl <| ru_iconst dX12_append_1 kc_i_0 <| ?_
  refine ru_putI h dX12_append_2 lk_X12_83 ?_
  intro m1 h
  refine ru_aload_n (i := 0) dX12_append_5 rfl rfl <| ?_
  refine ru_getI h dX12_append_6 lk_X12_94 ?_
  intro v2 h
  refine ru_bipush dX12_append_9 kc_b_20 <| ru_iadd dX12_append_11 <| ru_sipush dX12_append_12 kc_s_800 <| ?_
  refine ru_icmp_le (tgt := 20) dX12_append_15 (by decide) (fun hc => ?_) (fun hc => ?_)
  · rw [if_pos hc] at h
    refine ru_aload_n (i := 0) dX12_append_20 rfl rfl <| ru_iload_n (i := 1) dX12_append_21 rfl rfl <| ?_
    obtain ⟨_, hrc, h⟩ := Option.bind_eq_some_iff.mp h
    obtain ⟨q3, hq3, h⟩ := Option.bind_eq_some_iff.mp h
    refine ru_callV (tm_X12_bytesOf hl0 (by omega) hq3) dX12_append_22 rfl pm_X12_97 mf_X12_bytesOf (ab_rcv_of hrc rfl) rfl rfl (Nat.le_of_ble_eq_true rfl) ?_
    refine ru_aload_n (i := 0) dX12_append_25 rfl rfl <| ru_iload_n (i := 2) dX12_append_26 rfl rfl <| ?_
    obtain ⟨_, hrc, h⟩ := Option.bind_eq_some_iff.mp h
    obtain ⟨q4, hq4, h⟩ := Option.bind_eq_some_iff.mp h
    refine ru_callV (tm_X12_bytesOf hl0 (by omega) hq4) dX12_append_27 rfl pm_X12_97 mf_X12_bytesOf (ab_rcv_of hrc rfl) rfl rfl (Nat.le_of_ble_eq_true rfl) ?_
    refine ru_aload_n (i := 0) dX12_append_30 rfl rfl <| ru_iload_n (i := 3) dX12_append_31 rfl rfl <| ?_
    obtain ⟨_, hrc, h⟩ := Option.bind_eq_some_iff.mp h
    obtain ⟨q5, hq5, h⟩ := Option.bind_eq_some_iff.mp h
    refine ru_callV (tm_X12_bytesOf hl0 (by omega) hq5) dX12_append_32 rfl pm_X12_97 mf_X12_bytesOf (ab_rcv_of hrc rfl) rfl rfl (Nat.le_of_ble_eq_true rfl) ?_
    refine ru_aload_n (i := 0) dX12_append_35 rfl rfl <| ru_iload dX12_append_36 rfl <| ?_
    obtain ⟨_, hrc, h⟩ := Option.bind_eq_some_iff.mp h
    obtain ⟨q6, hq6, h⟩ := Option.bind_eq_some_iff.mp h
    refine ru_callV (tm_X12_bytesOf hl0 (by omega) hq6) dX12_append_38 rfl pm_X12_97 mf_X12_bytesOf (ab_rcv_of hrc rfl) rfl rfl (Nat.le_of_ble_eq_true rfl) ?_
    refine ru_aload_n (i := 0) dX12_append_41 rfl rfl <| ru_iload dX12_append_42 rfl <| ?_
    obtain ⟨_, hrc, h⟩ := Option.bind_eq_some_iff.mp h
    obtain ⟨q7, hq7, h⟩ := Option.bind_eq_some_iff.mp h
    refine ru_callV (tm_X12_bytesOf hl0 (by omega) hq7) dX12_append_44 rfl pm_X12_97 mf_X12_bytesOf (ab_rcv_of hrc rfl) rfl rfl (Nat.le_of_ble_eq_true rfl) ?_
    refine ru_aload_n (i := 0) dX12_append_47 rfl rfl <| ?_
    refine ru_getI h dX12_append_48 lk_X12_94 ?_
    intro v8 h
    cases h
    exact ru_ret (v := some (.int _)) ⟨_, rfl, rfl, dX12_append_51⟩
  · rw [if_neg hc] at h
    refine ru_iconst dX12_append_18 kc_i_m1 <| ?_
    cases h
    exact ru_ret (v := some (.int _)) ⟨_, rfl, rfl, dX12_append_19⟩
