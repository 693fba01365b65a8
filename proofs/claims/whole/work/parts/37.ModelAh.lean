/-! ===== the methods keep to these functions (by program) ===== -/
theorem tg_X12_drains {l : Launch} {g : ab_G} (hl0 : l.stackTraces = false) : ∀ n : Nat, (∀ d, n + 6 ≤ d → ∀ (a0 : Nat) (a1 : Int32) (a2 : Int32) (a3 : Int32) (m : ab_Mm) (z : (Int32 × ab_Mm)), dd_X12_drains n a0 a1 a2 a3 m = some z → ab_Met l g yX12_drains cX12_drains 7 (some .boolean) [] d [.ref a0, .int a1, .int a2, .int a3] m (.inl (some (.int z.1))) z.2) ∧ True := by
  intro n
  induction n with
  | zero => exact ⟨fun d hd _ _ _ _ m z h => (by cases h), trivial⟩
  | succ n ih =>
    refine ⟨?_, trivial⟩
    · intro d hd a0 a1 a2 a3 m z h
      obtain ⟨d2, rfl⟩ : ∃ d2, d = d2 + 1 := ⟨d - 1, by omega⟩
      exact ab_of hl0 (by decide +kernel) (Nat.le_of_ble_eq_true rfl) (fun q => by cases q) rfl (te_X12_drains hl0 (by omega) _ (fun b0 b1 b2 b3 m z h => ih.1 d2 (by omega) b0 b1 b2 b3 m z h) _ _ _ _ _ _ h)
theorem tm_X12_drains {l : Launch} {g : ab_G} (hl0 : l.stackTraces = false) {d : Nat} (hd : 36 ≤ d) {a0 : Nat} {a1 : Int32} {a2 : Int32} {a3 : Int32} {m : ab_Mm} {z : (Int32 × ab_Mm)} (h : dd_X12_drains 30 a0 a1 a2 a3 m = some z) : ab_Met l g yX12_drains cX12_drains 7 (some .boolean) [] d [.ref a0, .int a1, .int a2, .int a3] m (.inl (some (.int z.1))) z.2 := (tg_X12_drains hl0 30).1 d (by omega) a0 a1 a2 a3 m z h
theorem tbb_X12_drainTo_75 {l : Launch} {g : ab_G} (hl0 : l.stackTraces = false) {d2 : Nat} (hd : 37 ≤ d2 + 1)   (s0 : Int32) (m0 : ab_Mm) (z : (Int32 × ab_Mm)) (h : bb_X12_drainTo_75  s0 m0 = some z) : ab_W l g cX12_drainTo RX12 4 (some .int) [] false (d2 + 1) (.inl (some (.int z.1))) z.2 75 [] [.int s0] m0 := by
  unfold bb_X12_drainTo_75 at h
  cases h
  exact ru_ret (v := some (.int _)) ⟨_, rfl, rfl, dX12_drainTo_75⟩
theorem tbb_X12_drainTo_46 {l : Launch} {g : ab_G} (hl0 : l.stackTraces = false) {d2 : Nat} (hd : 37 ≤ d2 + 1)   (l0 : Nat) (l1 : Int32) (l2 : Int32) (l3 : Int32) (s0 : Nat) (s1 : Int32) (m0 : ab_Mm) (z : (Int32 × ab_Mm)) (h : bb_X12_drainTo_46  l0 l1 l2 l3 s0 s1 m0 = some z) : ab_W l g cX12_drainTo RX12 4 (some .int) [] false (d2 + 1) (.inl (some (.int z.1))) z.2 46 [(0, .ref l0), (1, .int l1), (2, .int l2), (3, .int l3)] [.int s1, .ref s0] m0 := by
  unfold bb_X12_drainTo_46 at h
  refine ru_iconst dX12_drainTo_46 kc_i_2 <| ?_
  obtain ⟨_, hrc, h⟩ := Option.bind_eq_some_iff.mp h
  obtain ⟨q1, hq1, h⟩ := Option.bind_eq_some_iff.mp h
  refine ru_callV (tm_X12_throwsIf hl0 (by omega) hq1) dX12_drainTo_47 rfl pm_X12_249 mf_X12_throwsIf (ab_rcv_of hrc rfl) rfl rfl (Nat.le_of_ble_eq_true rfl) ?_
  refine ru_if_eq (tgt := 55) dX12_drainTo_50 (by decide) (fun hc => ?_) (fun hc => ?_)
  · rw [if_pos hc] at h
    refine ru_aload_n (i := 0) dX12_drainTo_55 rfl rfl <| ru_iload_n (i := 1) dX12_drainTo_56 rfl rfl <| ru_iload_n (i := 3) dX12_drainTo_57 rfl rfl <| ru_iconst dX12_drainTo_58 kc_i_0 <| ?_
    obtain ⟨_, hrc, h⟩ := Option.bind_eq_some_iff.mp h
    obtain ⟨q2, hq2, h⟩ := Option.bind_eq_some_iff.mp h
    refine ru_callV (tm_X12_drains hl0 (by omega) hq2) dX12_drainTo_59 rfl pm_X12_353 mf_X12_drains (ab_rcv_of hrc rfl) rfl rfl (Nat.le_of_ble_eq_true rfl) ?_
    refine ru_if_eq (tgt := 74) dX12_drainTo_62 (by decide) (fun hc => ?_) (fun hc => ?_)
    · rw [if_pos hc] at h
      refine ru_iconst dX12_drainTo_74 kc_i_m1 <| ?_
      exact ru_pick [] rfl (tbb_X12_drainTo_75 hl0 hd   _ _ _ h)
    · rw [if_neg hc] at h
      refine ru_aload_n (i := 0) dX12_drainTo_65 rfl rfl <| ?_
      refine ru_getR h dX12_drainTo_66 lk_X12_58 ?_
      intro v3 h
      refine ru_iload_n (i := 2) dX12_drainTo_69 rfl rfl <| ?_
      refine ru_iaload h dX12_drainTo_70 ?_
      intro v4 h
      refine ru_goto (tgt := 75) dX12_drainTo_71 (by decide) <| ?_
      exact ru_pick [] rfl (tbb_X12_drainTo_75 hl0 hd   _ _ _ h)
  · rw [if_neg hc] at h
    refine ru_iconst dX12_drainTo_53 kc_i_0 <| ?_
    cases h
    exact ru_ret (v := some (.int _)) ⟨_, rfl, rfl, dX12_drainTo_54⟩
theorem tbb_X12_drainTo_41 {l : Launch} {g : ab_G} (hl0 : l.stackTraces = false) {d2 : Nat} (hd : 37 ≤ d2 + 1)   (l0 : Nat) (l1 : Int32) (l2 : Int32) (l3 : Int32) (s0 : Nat) (m0 : ab_Mm) (z : (Int32 × ab_Mm)) (h : bb_X12_drainTo_41  l0 l1 l2 l3 s0 m0 = some z) : ab_W l g cX12_drainTo RX12 4 (some .int) [] false (d2 + 1) (.inl (some (.int z.1))) z.2 41 [(0, .ref l0), (1, .int l1), (2, .int l2), (3, .int l3)] [.ref s0] m0 := by
  unfold bb_X12_drainTo_41 at h
  refine ru_iconst dX12_drainTo_41 kc_i_1 <| ru_goto (tgt := 46) dX12_drainTo_42 (by decide) <| ?_
  exact ru_pick [0, 1, 2, 3] rfl (tbb_X12_drainTo_46 hl0 hd   _ _ _ _ _ _ _ _ h)
theorem tbb_X12_drainTo_16 {l : Launch} {g : ab_G} (hl0 : l.stackTraces = false) {d2 : Nat} (hd : 37 ≤ d2 + 1)    (m0 : ab_Mm) (z : (Int32 × ab_Mm)) (h : bb_X12_drainTo_16   m0 = some z) : ab_W l g cX12_drainTo RX12 4 (some .int) [] false (d2 + 1) (.inl (some (.int z.1))) z.2 16 [] [] m0 := by
  unfold bb_X12_drainTo_16 at h
  refine ru_iconst dX12_drainTo_16 kc_i_0 <| ?_
  cases h
  exact ru_ret (v := some (.int _)) ⟨_, rfl, rfl, dX12_drainTo_17⟩
theorem te_X12_drainTo {l : Launch} {g : ab_G} (hl0 : l.stackTraces = false) {d2 : Nat} (hd : 37 ≤ d2 + 1)   (l0 : Nat) (l1 : Int32) (l2 : Int32) (m0 : ab_Mm) (z : (Int32 × ab_Mm)) (h : dd_X12_drainTo  l0 l1 l2 m0 = some z) : ab_W l g cX12_drainTo RX12 4 (some .int) [] false (d2 + 1) (.inl (some (.int z.1))) z.2 0 [(0, .ref l0), (1, .int l1), (2, .int l2)] [] m0 := by
  unfold dd_X12_drainTo at h
  refine ru_aload_n (i := 0) dX12_drainTo_0 rfl rfl <| ru_iload_n (i := 1) dX12_drainTo_1 rfl rfl <| ?_
  obtain ⟨_, hrc, h⟩ := Option.bind_eq_some_iff.mp h
  obtain ⟨q1, hq1, h⟩ := Option.bind_eq_some_iff.mp h
  refine ru_callV (tm_X12_noHost hl0 (by omega) hq1) dX12_drainTo_2 rfl pm_X12_289 mf_X12_noHost (ab_rcv_of hrc rfl) rfl rfl (Nat.le_of_ble_eq_true rfl) ?_
  refine ru_if_ne (tgt := 16) dX12_drainTo_5 (by decide) (fun hc => ?_) (fun hc => ?_)
  · rw [if_neg hc] at h
    exact ru_pick [] rfl (tbb_X12_drainTo_16 hl0 hd    _ _ h)
  · rw [if_pos hc] at h
    refine ru_aload_n (i := 0) dX12_drainTo_8 rfl rfl <| ru_iload_n (i := 2) dX12_drainTo_9 rfl rfl <| ?_
    obtain ⟨_, hrc, h⟩ := Option.bind_eq_some_iff.mp h
    obtain ⟨q2, hq2, h⟩ := Option.bind_eq_some_iff.mp h
    refine ru_callV (tm_X12_noInstance hl0 (by omega) hq2) dX12_drainTo_10 rfl pm_X12_304 mf_X12_noInstance (ab_rcv_of hrc rfl) rfl rfl (Nat.le_of_ble_eq_true rfl) ?_
    refine ru_if_eq (tgt := 18) dX12_drainTo_13 (by decide) (fun hc => ?_) (fun hc => ?_)
    · rw [if_pos hc] at h
      refine ru_aload_n (i := 0) dX12_drainTo_18 rfl rfl <| ru_iload_n (i := 1) dX12_drainTo_19 rfl rfl <| ?_
      obtain ⟨_, hrc, h⟩ := Option.bind_eq_some_iff.mp h
      obtain ⟨q3, hq3, h⟩ := Option.bind_eq_some_iff.mp h
      refine ru_callV (tm_X12_onHost hl0 (by omega) hq3) dX12_drainTo_20 rfl pm_X12_292 mf_X12_onHost (ab_rcv_of hrc rfl) rfl rfl (Nat.le_of_ble_eq_true rfl) ?_
      refine ru_istore_n (i := 3) dX12_drainTo_23 rfl (by decide) <| ru_aload_n (i := 0) dX12_drainTo_24 rfl rfl <| ru_iload_n (i := 3) dX12_drainTo_25 rfl rfl <| ru_iload_n (i := 2) dX12_drainTo_26 rfl rfl <| ?_
      obtain ⟨q4, hq4, h⟩ := Option.bind_eq_some_iff.mp h
      refine ru_callS (tm_X12_has hl0 (by omega) hq4) dX12_drainTo_27 rfl pm_X12_159 mf_X12_has rfl rfl (Nat.le_of_ble_eq_true rfl) ?_
      refine ru_if_eq (tgt := 41) dX12_drainTo_30 (by decide) (fun hc => ?_) (fun hc => ?_)
      · rw [if_pos hc] at h
        exact ru_pick [0, 1, 2, 3] rfl (tbb_X12_drainTo_41 hl0 hd   _ _ _ _ _ _ _ h)
      · rw [if_neg hc] at h
        refine ru_iload_n (i := 3) dX12_drainTo_33 rfl rfl <| ?_
        obtain ⟨q5, hq5, h⟩ := Option.bind_eq_some_iff.mp h
        refine ru_callS (tm_X12_bits hl0 (by omega) hq5) dX12_drainTo_34 rfl pm_X12_347 mf_X12_bits rfl rfl (Nat.le_of_ble_eq_true rfl) ?_
        refine ru_iconst dX12_drainTo_37 kc_i_5 <| ?_
        refine ru_icmp_le (tgt := 45) dX12_drainTo_38 (by decide) (fun hc => ?_) (fun hc => ?_)
        · rw [if_pos hc] at h
          refine ru_iconst dX12_drainTo_45 kc_i_0 <| ?_
          exact ru_pick [0, 1, 2, 3] rfl (tbb_X12_drainTo_46 hl0 hd   _ _ _ _ _ _ _ _ h)
        · rw [if_neg hc] at h
          exact ru_pick [0, 1, 2, 3] rfl (tbb_X12_drainTo_41 hl0 hd   _ _ _ _ _ _ _ h)
    · rw [if_neg hc] at h
      exact ru_pick [] rfl (tbb_X12_drainTo_16 hl0 hd    _ _ h)
theorem tm_X12_drainTo {l : Launch} {g : ab_G} (hl0 : l.stackTraces = false) {d : Nat} (hd : 37 ≤ d) {l0 : Nat} {l1 : Int32} {l2 : Int32} {m : ab_Mm} {z : (Int32 × ab_Mm)} (h : dd_X12_drainTo l0 l1 l2 m = some z) : ab_Met l g yX12_drainTo cX12_drainTo 4 (some .int) [] d [.ref l0, .int l1, .int l2] m (.inl (some (.int z.1))) z.2 := by
  obtain ⟨d2, rfl⟩ : ∃ d2, d = d2 + 1 := ⟨d - 1, by omega⟩
  exact ab_of hl0 (by decide +kernel) (Nat.le_of_ble_eq_true rfl) (fun q => by cases q) rfl (te_X12_drainTo hl0 hd _ _ _ _ _ h)
theorem tbb_X12_beginsOne_3 {l : Launch} {g : ab_G} (hl0 : l.stackTraces = false) {d2 : Nat} (hd : 3 ≤ d2 + 1)   : ∀ (n : Nat) (l0 : Nat) (l1 : Int32) (l2 : Int32) (l3 : Int32) (l4 : Int32) (l5 : Int32) (m0 : ab_Mm) (z : (Int32 × ab_Mm)), bb_X12_beginsOne_3  n l0 l1 l2 l3 l4 l5 m0 = some z → ab_W l g cX12_beginsOne RX12 6 (some .int) [] false (d2 + 1) (.inl (some (.int z.1))) z.2 3 [(0, .ref l0), (1, .int l1), (2, .int l2), (3, .int l3), (4, .int l4), (5, .int l5)] [] m0 := by
  intro n
  induction n with
  | zero => intro l0 l1 l2 l3 l4 l5 m0 z h; cases h
  | succ n ih =>
    intro l0 l1 l2 l3 l4 l5 m0 z h
    rw [bb_X12_beginsOne_3] at h
    refine ru_aload_n (i := 0) dX12_beginsOne_3 rfl rfl <| ru_iload dX12_beginsOne_4 rfl <| ?_
    obtain ⟨_, hrc, h⟩ := Option.bind_eq_some_iff.mp h
    obtain ⟨q1, hq1, h⟩ := Option.bind_eq_some_iff.mp h
    refine ru_callV (tm_X12_runs hl0 (by omega) hq1) dX12_beginsOne_6 rfl pm_X12_264 mf_X12_runs (ab_rcv_of hrc rfl) rfl rfl (Nat.le_of_ble_eq_true rfl) ?_
    refine ru_if_eq (tgt := 18) dX12_beginsOne_9 (by decide) (fun hc => ?_) (fun hc => ?_)
    · rw [if_pos hc] at h
      refine ru_aload_n (i := 0) dX12_beginsOne_18 rfl rfl <| ?_
      refine ru_getR h dX12_beginsOne_19 lk_X12_7 ?_
      intro v2 h
      refine ru_iload dX12_beginsOne_22 rfl <| ru_iconst dX12_beginsOne_24 kc_i_0 <| ?_
      obtain ⟨q3, hq3, h⟩ := Option.bind_eq_some_iff.mp h
      refine ru_callS (tm_X12_of hl0 (by omega) hq3) dX12_beginsOne_25 rfl pm_X12_238 mf_X12_of rfl rfl (Nat.le_of_ble_eq_true rfl) ?_
      refine ru_iload_n (i := 1) dX12_beginsOne_28 rfl rfl <| ru_i2l dX12_beginsOne_29 <| ?_
      refine ru_lastore h dX12_beginsOne_30 ?_
      intro m4 h
      refine ru_aload_n (i := 0) dX12_beginsOne_31 rfl rfl <| ?_
      refine ru_getR h dX12_beginsOne_32 lk_X12_7 ?_
      intro v5 h
      refine ru_iload dX12_beginsOne_35 rfl <| ru_iconst dX12_beginsOne_37 kc_i_1 <| ?_
      obtain ⟨q6, hq6, h⟩ := Option.bind_eq_some_iff.mp h
      refine ru_callS (tm_X12_of hl0 (by omega) hq6) dX12_beginsOne_38 rfl pm_X12_238 mf_X12_of rfl rfl (Nat.le_of_ble_eq_true rfl) ?_
      refine ru_iload_n (i := 2) dX12_beginsOne_41 rfl rfl <| ru_i2l dX12_beginsOne_42 <| ?_
      refine ru_lastore h dX12_beginsOne_43 ?_
      intro m7 h
      refine ru_aload_n (i := 0) dX12_beginsOne_44 rfl rfl <| ?_
      refine ru_getR h dX12_beginsOne_45 lk_X12_7 ?_
      intro v8 h
      refine ru_iload dX12_beginsOne_48 rfl <| ru_iconst dX12_beginsOne_50 kc_i_2 <| ?_
      obtain ⟨q9, hq9, h⟩ := Option.bind_eq_some_iff.mp h
      refine ru_callS (tm_X12_of hl0 (by omega) hq9) dX12_beginsOne_51 rfl pm_X12_238 mf_X12_of rfl rfl (Nat.le_of_ble_eq_true rfl) ?_
      refine ru_iload_n (i := 3) dX12_beginsOne_54 rfl rfl <| ru_i2l dX12_beginsOne_55 <| ?_
      refine ru_lastore h dX12_beginsOne_56 ?_
      intro m10 h
      refine ru_aload_n (i := 0) dX12_beginsOne_57 rfl rfl <| ?_
      refine ru_getR h dX12_beginsOne_58 lk_X12_7 ?_
      intro v11 h
      refine ru_iload dX12_beginsOne_61 rfl <| ru_iconst dX12_beginsOne_63 kc_i_3 <| ?_
      obtain ⟨q12, hq12, h⟩ := Option.bind_eq_some_iff.mp h
      refine ru_callS (tm_X12_of hl0 (by omega) hq12) dX12_beginsOne_64 rfl pm_X12_238 mf_X12_of rfl rfl (Nat.le_of_ble_eq_true rfl) ?_
      refine ru_iload dX12_beginsOne_67 rfl <| ru_i2l dX12_beginsOne_69 <| ?_
      refine ru_lastore h dX12_beginsOne_70 ?_
      intro m13 h
      refine ru_aload_n (i := 0) dX12_beginsOne_71 rfl rfl <| ?_
      refine ru_getR h dX12_beginsOne_72 lk_X12_7 ?_
      intro v14 h
      refine ru_iload dX12_beginsOne_75 rfl <| ru_iconst dX12_beginsOne_77 kc_i_4 <| ?_
      obtain ⟨q15, hq15, h⟩ := Option.bind_eq_some_iff.mp h
      refine ru_callS (tm_X12_of hl0 (by omega) hq15) dX12_beginsOne_78 rfl pm_X12_238 mf_X12_of rfl rfl (Nat.le_of_ble_eq_true rfl) ?_
      refine ru_ldc2_w dX12_beginsOne_81 pk_X12_256 <| ?_
      refine ru_lastore h dX12_beginsOne_84 ?_
      intro m16 h
      refine ru_aload_n (i := 0) dX12_beginsOne_85 rfl rfl <| ?_
      refine ru_getR h dX12_beginsOne_86 lk_X12_7 ?_
      intro v17 h
      refine ru_iload dX12_beginsOne_89 rfl <| ru_iconst dX12_beginsOne_91 kc_i_5 <| ?_
      obtain ⟨q18, hq18, h⟩ := Option.bind_eq_some_iff.mp h
      refine ru_callS (tm_X12_of hl0 (by omega) hq18) dX12_beginsOne_92 rfl pm_X12_238 mf_X12_of rfl rfl (Nat.le_of_ble_eq_true rfl) ?_
      refine ru_aload_n (i := 0) dX12_beginsOne_95 rfl rfl <| ?_
      refine ru_getR h dX12_beginsOne_96 lk_X12_7 ?_
      intro v19 h
      refine ru_iconst dX12_beginsOne_99 kc_i_0 <| ?_
      refine ru_laload h dX12_beginsOne_100 ?_
      intro v20 h
      refine ru_lastore h dX12_beginsOne_101 ?_
      intro m21 h
      refine ru_iload dX12_beginsOne_102 rfl <| ?_
      cases h
      exact ru_ret (v := some (.int _)) ⟨_, rfl, rfl, dX12_beginsOne_104⟩
    · rw [if_neg hc] at h
      refine ru_iinc dX12_beginsOne_12 (by decide) rfl (ab_inc kc_i_1) <| ru_goto (tgt := 3) dX12_beginsOne_15 (by decide) <| ?_
      exact ru_pick [0, 1, 2, 3, 4, 5] rfl (ih _ _ _ _ _ _ _ _ h)
theorem te_X12_beginsOne {l : Launch} {g : ab_G} (hl0 : l.stackTraces = false) {d2 : Nat} (hd : 3 ≤ d2 + 1)   (l0 : Nat) (l1 : Int32) (l2 : Int32) (l3 : Int32) (l4 : Int32) (m0 : ab_Mm) (z : (Int32 × ab_Mm)) (h : dd_X12_beginsOne  l0 l1 l2 l3 l4 m0 = some z) : ab_W l g cX12_beginsOne RX12 6 (some .int) [] false (d2 + 1) (.inl (some (.int z.1))) z.2 0 [(0, .ref l0), (1, .int l1), (2, .int l2), (3, .int l3), (4, .int l4)] [] m0 := by
  unfold dd_X12_beginsOne at h
  refine ru_iconst dX12_beginsOne_0 kc_i_0 <| ru_istore dX12_beginsOne_1 (by decide) <| ?_
  exact ru_pick [0, 1, 2, 3, 4, 5] rfl (tbb_X12_beginsOne_3 hl0 hd   _ _ _ _ _ _ _ _ _ h)
theorem tm_X12_beginsOne {l : Launch} {g : ab_G} (hl0 : l.stackTraces = false) {d : Nat} (hd : 3 ≤ d) {l0 : Nat} {l1 : Int32} {l2 : Int32} {l3 : Int32} {l4 : Int32} {m : ab_Mm} {z : (Int32 × ab_Mm)} (h : dd_X12_beginsOne l0 l1 l2 l3 l4 m = some z) : ab_Met l g yX12_beginsOne cX12_beginsOne 6 (some .int) [] d [.ref l0, .int l1, .int l2, .int l3, .int l4] m (.inl (some (.int z.1))) z.2 := by
  obtain ⟨d2, rfl⟩ : ∃ d2, d = d2 + 1 := ⟨d - 1, by omega⟩
  exact ab_of hl0 (by decide +kernel) (Nat.le_of_ble_eq_true rfl) (fun q => by cases q) rfl (te_X12_beginsOne hl0 hd _ _ _ _ _ _ _ h)
theorem tbb_X12_beginsRequest_75 {l : Launch} {g : ab_G} (hl0 : l.stackTraces = false) {d2 : Nat} (hd : 7 ≤ d2 + 1)    (m0 : ab_Mm) (z : (Int32 × ab_Mm)) (h : bb_X12_beginsRequest_75   m0 = some z) : ab_W l g cX12_beginsRequest RX12 6 (some .boolean) [] false (d2 + 1) (.inl (some (.int z.1))) z.2 75 [] [] m0 := by
  unfold bb_X12_beginsRequest_75 at h
  refine ru_iconst dX12_beginsRequest_75 kc_i_0 <| ?_
  cases h
  exact ru_ret (v := some (.int _)) ⟨_, rfl, ab_nz0, dX12_beginsRequest_76⟩
theorem te_X12_beginsRequest {l : Launch} {g : ab_G} (hl0 : l.stackTraces = false) {d2 : Nat} (hd : 7 ≤ d2 + 1)   (l0 : Nat) (l1 : Int32) (m0 : ab_Mm) (z : (Int32 × ab_Mm)) (h : dd_X12_beginsRequest  l0 l1 m0 = some z) : ab_W l g cX12_beginsRequest RX12 6 (some .boolean) [] false (d2 + 1) (.inl (some (.int z.1))) z.2 0 [(0, .ref l0), (1, .int l1)] [] m0 := by
  unfold dd_X12_beginsRequest at h
  refine ru_aload_n (i := 0) dX12_beginsRequest_0 rfl rfl <| ?_
  refine ru_getR h dX12_beginsRequest_1 lk_X12_7 ?_
  intro v1 h
  refine ru_bipush dX12_beginsRequest_4 kc_b_86 <| ru_iconst dX12_beginsRequest_6 kc_i_3 <| ru_iload_n (i := 1) dX12_beginsRequest_7 rfl rfl <| ru_imul dX12_beginsRequest_8 <| ru_iadd dX12_beginsRequest_9 <| ?_
  refine ru_laload h dX12_beginsRequest_10 ?_
  intro v2 h
  refine ru_l2i dX12_beginsRequest_11 <| ru_istore_n (i := 2) dX12_beginsRequest_12 rfl (by decide) <| ru_aload_n (i := 0) dX12_beginsRequest_13 rfl rfl <| ?_
  refine ru_getR h dX12_beginsRequest_14 lk_X12_7 ?_
  intro v3 h
  refine ru_bipush dX12_beginsRequest_17 kc_b_86 <| ru_iconst dX12_beginsRequest_19 kc_i_3 <| ru_iload_n (i := 1) dX12_beginsRequest_20 rfl rfl <| ru_imul dX12_beginsRequest_21 <| ru_iadd dX12_beginsRequest_22 <| ru_iconst dX12_beginsRequest_23 kc_i_1 <| ru_iadd dX12_beginsRequest_24 <| ?_
  refine ru_laload h dX12_beginsRequest_25 ?_
  intro v4 h
  refine ru_l2i dX12_beginsRequest_26 <| ru_istore_n (i := 3) dX12_beginsRequest_27 rfl (by decide) <| ru_aload_n (i := 0) dX12_beginsRequest_28 rfl rfl <| ru_iload_n (i := 1) dX12_beginsRequest_29 rfl rfl <| ?_
  obtain ⟨_, hrc, h⟩ := Option.bind_eq_some_iff.mp h
  obtain ⟨q5, hq5, h⟩ := Option.bind_eq_some_iff.mp h
  refine ru_callV (tm_X12_bidAt hl0 (by omega) hq5) dX12_beginsRequest_30 rfl pm_X12_307 mf_X12_bidAt (ab_rcv_of hrc rfl) rfl rfl (Nat.le_of_ble_eq_true rfl) ?_
  refine ru_istore dX12_beginsRequest_33 (by decide) <| ru_aload_n (i := 0) dX12_beginsRequest_35 rfl rfl <| ru_iload_n (i := 3) dX12_beginsRequest_36 rfl rfl <| ?_
  obtain ⟨_, hrc, h⟩ := Option.bind_eq_some_iff.mp h
  obtain ⟨q6, hq6, h⟩ := Option.bind_eq_some_iff.mp h
  refine ru_callV (tm_X12_bestFor hl0 (by omega) hq6) dX12_beginsRequest_37 rfl pm_X12_298 mf_X12_bestFor (ab_rcv_of hrc rfl) rfl rfl (Nat.le_of_ble_eq_true rfl) ?_
  refine ru_istore dX12_beginsRequest_40 (by decide) <| ru_iload dX12_beginsRequest_42 rfl <| ru_i2l dX12_beginsRequest_44 <| ru_aload_n (i := 0) dX12_beginsRequest_45 rfl rfl <| ?_
  refine ru_getR h dX12_beginsRequest_46 lk_X12_7 ?_
  intro v7 h
  refine ru_iconst dX12_beginsRequest_49 kc_i_2 <| ru_iload_n (i := 3) dX12_beginsRequest_50 rfl rfl <| ru_iadd dX12_beginsRequest_51 <| ?_
  refine ru_laload h dX12_beginsRequest_52 ?_
  intro v8 h
  refine ru_lcmp dX12_beginsRequest_53 <| ?_
  refine ru_if_lt (tgt := 75) dX12_beginsRequest_54 (by decide) (fun hc => ?_) (fun hc => ?_)
  · rw [if_pos hc] at h
    exact ru_pick [] rfl (tbb_X12_beginsRequest_75 hl0 hd    _ _ h)
  · rw [if_neg hc] at h
    refine ru_aload_n (i := 0) dX12_beginsRequest_57 rfl rfl <| ?_
    obtain ⟨_, hrc, h⟩ := Option.bind_eq_some_iff.mp h
    obtain ⟨q9, hq9, h⟩ := Option.bind_eq_some_iff.mp h
    refine ru_callV (tm_X12_runningOnes hl0 (by omega) hq9) dX12_beginsRequest_58 rfl pm_X12_301 mf_X12_runningOnes (ab_rcv_of hrc rfl) rfl rfl (Nat.le_of_ble_eq_true rfl) ?_
    obtain ⟨q10, hq10, h⟩ := Option.bind_eq_some_iff.mp h
    refine ru_callS (tm_X12_bits hl0 (by omega) hq10) dX12_beginsRequest_61 rfl pm_X12_347 mf_X12_bits rfl rfl (Nat.le_of_ble_eq_true rfl) ?_
    refine ru_bipush dX12_beginsRequest_64 kc_b_12 <| ?_
    refine ru_icmp_eq (tgt := 75) dX12_beginsRequest_66 (by decide) (fun hc => ?_) (fun hc => ?_)
    · rw [if_pos hc] at h
      exact ru_pick [] rfl (tbb_X12_beginsRequest_75 hl0 hd    _ _ h)
    · rw [if_neg hc] at h
      refine ru_iload dX12_beginsRequest_69 rfl <| ru_iconst dX12_beginsRequest_71 kc_i_m1 <| ?_
      refine ru_icmp_ne (tgt := 77) dX12_beginsRequest_72 (by decide) (fun hc => ?_) (fun hc => ?_)
      · rw [if_neg hc] at h
        refine ru_aload_n (i := 0) dX12_beginsRequest_77 rfl rfl <| ru_iload_n (i := 2) dX12_beginsRequest_78 rfl rfl <| ru_iload_n (i := 3) dX12_beginsRequest_79 rfl rfl <| ru_iload dX12_beginsRequest_80 rfl <| ru_iload dX12_beginsRequest_82 rfl <| ?_
        obtain ⟨_, hrc, h⟩ := Option.bind_eq_some_iff.mp h
        obtain ⟨q11, hq11, h⟩ := Option.bind_eq_some_iff.mp h
        refine ru_callV (tm_X12_beginsOne hl0 (by omega) hq11) dX12_beginsRequest_84 rfl pm_X12_362 mf_X12_beginsOne (ab_rcv_of hrc rfl) rfl rfl (Nat.le_of_ble_eq_true rfl) ?_
        refine ru_pop dX12_beginsRequest_87 rfl <| ru_aload_n (i := 0) dX12_beginsRequest_88 rfl rfl <| ru_iload_n (i := 1) dX12_beginsRequest_89 rfl rfl <| ?_
        obtain ⟨_, hrc, h⟩ := Option.bind_eq_some_iff.mp h
        obtain ⟨q12, hq12, h⟩ := Option.bind_eq_some_iff.mp h
        refine ru_callV (tm_X12_dropsRequest hl0 (by omega) hq12) dX12_beginsRequest_90 rfl pm_X12_366 mf_X12_dropsRequest (ab_rcv_of hrc rfl) rfl rfl (Nat.le_of_ble_eq_true rfl) ?_
        refine ru_iconst dX12_beginsRequest_93 kc_i_1 <| ?_
        cases h
        exact ru_ret (v := some (.int _)) ⟨_, rfl, ab_nz1, dX12_beginsRequest_94⟩
      · rw [if_pos hc] at h
        exact ru_pick [] rfl (tbb_X12_beginsRequest_75 hl0 hd    _ _ h)
theorem tm_X12_beginsRequest {l : Launch} {g : ab_G} (hl0 : l.stackTraces = false) {d : Nat} (hd : 7 ≤ d) {l0 : Nat} {l1 : Int32} {m : ab_Mm} {z : (Int32 × ab_Mm)} (h : dd_X12_beginsRequest l0 l1 m = some z) : ab_Met l g yX12_beginsRequest cX12_beginsRequest 6 (some .boolean) [] d [.ref l0, .int l1] m (.inl (some (.int z.1))) z.2 := by
  obtain ⟨d2, rfl⟩ : ∃ d2, d = d2 + 1 := ⟨d - 1, by omega⟩
  exact ab_of hl0 (by decide +kernel) (Nat.le_of_ble_eq_true rfl) (fun q => by cases q) rfl (te_X12_beginsRequest hl0 hd _ _ _ _ h)
theorem tbb_X12_hour_288 {l : Launch} {g : ab_G} (hl0 : l.stackTraces = false) {d2 : Nat} (hd : 8 ≤ d2 + 1) (r272 : Nat → Int32 → Int32 → ab_Mm → Option (Unit × ab_Mm)) (hr272 : ∀ (l0 : Nat) (l1 : Int32) (l2 : Int32) (m : ab_Mm) (z : (Unit × ab_Mm)), r272 l0 l1 l2 m = some z → ab_W l g cX12_hour RX12 4 none [] false (d2 + 1) (.inl none) z.2 272 [(0, .ref l0), (1, .int l1), (2, .int l2)] [] m) (l0 : Nat) (l1 : Int32) (m0 : ab_Mm) (z : (Unit × ab_Mm)) (h : bb_X12_hour_288 r272 l0 l1 m0 = some z) : ab_W l g cX12_hour RX12 4 none [] false (d2 + 1) (.inl none) z.2 288 [(0, .ref l0), (1, .int l1)] [] m0 := by
  unfold bb_X12_hour_288 at h
  refine ru_aload_n (i := 0) dX12_hour_288 rfl rfl <| ru_iload_n (i := 1) dX12_hour_289 rfl rfl <| ?_
  obtain ⟨_, hrc, h⟩ := Option.bind_eq_some_iff.mp h
  obtain ⟨q1, hq1, h⟩ := Option.bind_eq_some_iff.mp h
  refine ru_callV (tm_X12_requestAt hl0 (by omega) hq1) dX12_hour_290 rfl pm_X12_310 mf_X12_requestAt (ab_rcv_of hrc rfl) rfl rfl (Nat.le_of_ble_eq_true rfl) ?_
  refine ru_istore_n (i := 2) dX12_hour_293 rfl (by decide) <| ru_goto (tgt := 272) dX12_hour_294 (by decide) <| ?_
  exact ru_pick [0, 1, 2] rfl (hr272 _ _ _ _ _ h)
theorem tbb_X12_hour_272 {l : Launch} {g : ab_G} (hl0 : l.stackTraces = false) {d2 : Nat} (hd : 8 ≤ d2 + 1)   : ∀ (n : Nat) (l0 : Nat) (l1 : Int32) (l2 : Int32) (m0 : ab_Mm) (z : (Unit × ab_Mm)), bb_X12_hour_272  n l0 l1 l2 m0 = some z → ab_W l g cX12_hour RX12 4 none [] false (d2 + 1) (.inl none) z.2 272 [(0, .ref l0), (1, .int l1), (2, .int l2)] [] m0 := by
  intro n
  induction n with
  | zero => intro l0 l1 l2 m0 z h; cases h
  | succ n ih =>
    intro l0 l1 l2 m0 z h
    rw [bb_X12_hour_272] at h
    refine ru_iload_n (i := 2) dX12_hour_272 rfl rfl <| ru_iconst dX12_hour_273 kc_i_m1 <| ?_
    refine ru_icmp_eq (tgt := 297) dX12_hour_274 (by decide) (fun hc => ?_) (fun hc => ?_)
    · rw [if_pos hc] at h
      cases h
      exact ru_ret (v := none) ⟨rfl, dX12_hour_297⟩
    · rw [if_neg hc] at h
      refine ru_aload_n (i := 0) dX12_hour_277 rfl rfl <| ru_iload_n (i := 2) dX12_hour_278 rfl rfl <| ?_
      obtain ⟨_, hrc, h⟩ := Option.bind_eq_some_iff.mp h
      obtain ⟨q1, hq1, h⟩ := Option.bind_eq_some_iff.mp h
      refine ru_callV (tm_X12_beginsRequest hl0 (by omega) hq1) dX12_hour_279 rfl pm_X12_359 mf_X12_beginsRequest (ab_rcv_of hrc rfl) rfl rfl (Nat.le_of_ble_eq_true rfl) ?_
      refine ru_if_ne (tgt := 288) dX12_hour_282 (by decide) (fun hc => ?_) (fun hc => ?_)
      · rw [if_neg hc] at h
        exact ru_pick [0, 1] rfl (tbb_X12_hour_288 hl0 hd _ ih _ _ _ _ h)
      · rw [if_pos hc] at h
        refine ru_iinc dX12_hour_285 (by decide) rfl (ab_inc kc_i_1) <| ?_
        exact ru_pick [0, 1] rfl (tbb_X12_hour_288 hl0 hd _ ih _ _ _ _ h)
theorem tbb_X12_hour_258 {l : Launch} {g : ab_G} (hl0 : l.stackTraces = false) {d2 : Nat} (hd : 8 ≤ d2 + 1) (r134 : Nat → Int32 → ab_Mm → Option (Unit × ab_Mm)) (hr134 : ∀ (l0 : Nat) (l1 : Int32) (m : ab_Mm) (z : (Unit × ab_Mm)), r134 l0 l1 m = some z → ab_W l g cX12_hour RX12 4 none [] false (d2 + 1) (.inl none) z.2 134 [(0, .ref l0), (1, .int l1)] [] m) (l0 : Nat) (l1 : Int32) (m0 : ab_Mm) (z : (Unit × ab_Mm)) (h : bb_X12_hour_258 r134 l0 l1 m0 = some z) : ab_W l g cX12_hour RX12 4 none [] false (d2 + 1) (.inl none) z.2 258 [(0, .ref l0), (1, .int l1)] [] m0 := by
  unfold bb_X12_hour_258 at h
  refine ru_iinc dX12_hour_258 (by decide) rfl (ab_inc kc_i_1) <| ru_goto (tgt := 134) dX12_hour_261 (by decide) <| ?_
  exact ru_pick [0, 1] rfl (hr134 _ _ _ _ h)
theorem tbb_X12_hour_257 {l : Launch} {g : ab_G} (hl0 : l.stackTraces = false) {d2 : Nat} (hd : 8 ≤ d2 + 1) (r134 : Nat → Int32 → ab_Mm → Option (Unit × ab_Mm)) (hr134 : ∀ (l0 : Nat) (l1 : Int32) (m : ab_Mm) (z : (Unit × ab_Mm)), r134 l0 l1 m = some z → ab_W l g cX12_hour RX12 4 none [] false (d2 + 1) (.inl none) z.2 134 [(0, .ref l0), (1, .int l1)] [] m) (l0 : Nat) (l1 : Int32) (s0 : Nat) (s1 : Int32) (s2 : Int64) (m0 : ab_Mm) (z : (Unit × ab_Mm)) (h : bb_X12_hour_257 r134 l0 l1 s0 s1 s2 m0 = some z) : ab_W l g cX12_hour RX12 4 none [] false (d2 + 1) (.inl none) z.2 257 [(0, .ref l0), (1, .int l1)] [.long s2, .int s1, .ref s0] m0 := by
  unfold bb_X12_hour_257 at h
  refine ru_lastore h dX12_hour_257 ?_
  intro m1 h
  exact ru_pick [0, 1] rfl (tbb_X12_hour_258 hl0 hd _ hr134 _ _ _ _ h)
theorem tbb_X12_hour_206 {l : Launch} {g : ab_G} (hl0 : l.stackTraces = false) {d2 : Nat} (hd : 8 ≤ d2 + 1) (r134 : Nat → Int32 → ab_Mm → Option (Unit × ab_Mm)) (hr134 : ∀ (l0 : Nat) (l1 : Int32) (m : ab_Mm) (z : (Unit × ab_Mm)), r134 l0 l1 m = some z → ab_W l g cX12_hour RX12 4 none [] false (d2 + 1) (.inl none) z.2 134 [(0, .ref l0), (1, .int l1)] [] m) (l0 : Nat) (l1 : Int32) (l2 : Int32) (s0 : Int32) (m0 : ab_Mm) (z : (Unit × ab_Mm)) (h : bb_X12_hour_206 r134 l0 l1 l2 s0 m0 = some z) : ab_W l g cX12_hour RX12 4 none [] false (d2 + 1) (.inl none) z.2 206 [(0, .ref l0), (1, .int l1), (2, .int l2)] [.int s0] m0 := by
  unfold bb_X12_hour_206 at h
  refine ru_istore_n (i := 3) dX12_hour_206 rfl (by decide) <| ru_aload_n (i := 0) dX12_hour_207 rfl rfl <| ?_
  refine ru_getR h dX12_hour_208 lk_X12_7 ?_
  intro v1 h
  refine ru_iload_n (i := 1) dX12_hour_211 rfl rfl <| ru_iconst dX12_hour_212 kc_i_4 <| ?_
  obtain ⟨q2, hq2, h⟩ := Option.bind_eq_some_iff.mp h
  refine ru_callS (tm_X12_of hl0 (by omega) hq2) dX12_hour_213 rfl pm_X12_238 mf_X12_of rfl rfl (Nat.le_of_ble_eq_true rfl) ?_
  refine ru_iload_n (i := 2) dX12_hour_216 rfl rfl <| ?_
  refine ru_if_ne (tgt := 226) dX12_hour_217 (by decide) (fun hc => ?_) (fun hc => ?_)
  · rw [if_neg hc] at h
    refine ru_iload_n (i := 3) dX12_hour_226 rfl rfl <| ?_
    refine ru_if_eq (tgt := 247) dX12_hour_227 (by decide) (fun hc => ?_) (fun hc => ?_)
    · rw [if_pos hc] at h
      refine ru_aload_n (i := 0) dX12_hour_247 rfl rfl <| ?_
      refine ru_getR h dX12_hour_248 lk_X12_7 ?_
      intro v3 h
      refine ru_iload_n (i := 1) dX12_hour_251 rfl rfl <| ru_iconst dX12_hour_252 kc_i_4 <| ?_
      obtain ⟨q4, hq4, h⟩ := Option.bind_eq_some_iff.mp h
      refine ru_callS (tm_X12_of hl0 (by omega) hq4) dX12_hour_253 rfl pm_X12_238 mf_X12_of rfl rfl (Nat.le_of_ble_eq_true rfl) ?_
      refine ru_laload h dX12_hour_256 ?_
      intro v5 h
      exact ru_pick [0, 1] rfl (tbb_X12_hour_257 hl0 hd _ hr134 _ _ _ _ _ _ _ h)
    · rw [if_neg hc] at h
      refine ru_aload_n (i := 0) dX12_hour_230 rfl rfl <| ?_
      refine ru_getR h dX12_hour_231 lk_X12_7 ?_
      intro v6 h
      refine ru_iconst dX12_hour_234 kc_i_0 <| ?_
      refine ru_laload h dX12_hour_235 ?_
      intro v7 h
      refine ru_aload_n (i := 0) dX12_hour_236 rfl rfl <| ?_
      refine ru_getR h dX12_hour_237 lk_X12_13 ?_
      intro v8 h
      refine ru_iconst dX12_hour_240 kc_i_5 <| ?_
      refine ru_iaload h dX12_hour_241 ?_
      intro v9 h
      refine ru_i2l dX12_hour_242 <| ru_ladd dX12_hour_243 <| ru_goto (tgt := 257) dX12_hour_244 (by decide) <| ?_
      exact ru_pick [0, 1] rfl (tbb_X12_hour_257 hl0 hd _ hr134 _ _ _ _ _ _ _ h)
  · rw [if_pos hc] at h
    refine ru_ldc2_w dX12_hour_220 pk_X12_256 <| ru_goto (tgt := 257) dX12_hour_223 (by decide) <| ?_
    exact ru_pick [0, 1] rfl (tbb_X12_hour_257 hl0 hd _ hr134 _ _ _ _ _ _ _ h)
theorem tbb_X12_hour_190 {l : Launch} {g : ab_G} (hl0 : l.stackTraces = false) {d2 : Nat} (hd : 8 ≤ d2 + 1) (r134 : Nat → Int32 → ab_Mm → Option (Unit × ab_Mm)) (hr134 : ∀ (l0 : Nat) (l1 : Int32) (m : ab_Mm) (z : (Unit × ab_Mm)), r134 l0 l1 m = some z → ab_W l g cX12_hour RX12 4 none [] false (d2 + 1) (.inl none) z.2 134 [(0, .ref l0), (1, .int l1)] [] m) (l0 : Nat) (l1 : Int32) (s0 : Int32) (m0 : ab_Mm) (z : (Unit × ab_Mm)) (h : bb_X12_hour_190 r134 l0 l1 s0 m0 = some z) : ab_W l g cX12_hour RX12 4 none [] false (d2 + 1) (.inl none) z.2 190 [(0, .ref l0), (1, .int l1)] [.int s0] m0 := by
  unfold bb_X12_hour_190 at h
  refine ru_istore_n (i := 2) dX12_hour_190 rfl (by decide) <| ru_aload_n (i := 0) dX12_hour_191 rfl rfl <| ru_iload_n (i := 1) dX12_hour_192 rfl rfl <| ru_iconst dX12_hour_193 kc_i_4 <| ?_
  obtain ⟨_, hrc, h⟩ := Option.bind_eq_some_iff.mp h
  obtain ⟨q1, hq1, h⟩ := Option.bind_eq_some_iff.mp h
  refine ru_callV (tm_X12_its hl0 (by omega) hq1) dX12_hour_194 rfl pm_X12_242 mf_X12_its (ab_rcv_of hrc rfl) rfl rfl (Nat.le_of_ble_eq_true rfl) ?_
  refine ru_iconst dX12_hour_197 kc_i_m1 <| ?_
  refine ru_icmp_ne (tgt := 205) dX12_hour_198 (by decide) (fun hc => ?_) (fun hc => ?_)
  · rw [if_neg hc] at h
    refine ru_iconst dX12_hour_205 kc_i_0 <| ?_
    exact ru_pick [0, 1, 2] rfl (tbb_X12_hour_206 hl0 hd _ hr134 _ _ _ _ _ _ h)
  · rw [if_pos hc] at h
    refine ru_iconst dX12_hour_201 kc_i_1 <| ru_goto (tgt := 206) dX12_hour_202 (by decide) <| ?_
    exact ru_pick [0, 1, 2] rfl (tbb_X12_hour_206 hl0 hd _ hr134 _ _ _ _ _ _ h)
theorem tbb_X12_hour_134 {l : Launch} {g : ab_G} (hl0 : l.stackTraces = false) {d2 : Nat} (hd : 8 ≤ d2 + 1)   : ∀ (n : Nat) (l0 : Nat) (l1 : Int32) (m0 : ab_Mm) (z : (Unit × ab_Mm)), bb_X12_hour_134  n l0 l1 m0 = some z → ab_W l g cX12_hour RX12 4 none [] false (d2 + 1) (.inl none) z.2 134 [(0, .ref l0), (1, .int l1)] [] m0 := by
  intro n
  induction n with
  | zero => intro l0 l1 m0 z h; cases h
  | succ n ih =>
    intro l0 l1 m0 z h
    rw [bb_X12_hour_134] at h
    refine ru_iload_n (i := 1) dX12_hour_134 rfl rfl <| ru_bipush dX12_hour_135 kc_b_12 <| ?_
    refine ru_icmp_ge (tgt := 264) dX12_hour_137 (by decide) (fun hc => ?_) (fun hc => ?_)
    · rw [if_pos hc] at h
      refine ru_iconst dX12_hour_264 kc_i_0 <| ru_istore_n (i := 1) dX12_hour_265 rfl (by decide) <| ru_aload_n (i := 0) dX12_hour_266 rfl rfl <| ru_iload_n (i := 1) dX12_hour_267 rfl rfl <| ?_
      obtain ⟨_, hrc, h⟩ := Option.bind_eq_some_iff.mp h
      obtain ⟨q1, hq1, h⟩ := Option.bind_eq_some_iff.mp h
      refine ru_callV (tm_X12_requestAt hl0 (by omega) hq1) dX12_hour_268 rfl pm_X12_310 mf_X12_requestAt (ab_rcv_of hrc rfl) rfl rfl (Nat.le_of_ble_eq_true rfl) ?_
      refine ru_istore_n (i := 2) dX12_hour_271 rfl (by decide) <| ?_
      exact ru_pick [0, 1, 2] rfl (tbb_X12_hour_272 hl0 hd   _ _ _ _ _ _ h)
    · rw [if_neg hc] at h
      refine ru_aload_n (i := 0) dX12_hour_140 rfl rfl <| ru_iload_n (i := 1) dX12_hour_141 rfl rfl <| ?_
      obtain ⟨_, hrc, h⟩ := Option.bind_eq_some_iff.mp h
      obtain ⟨q2, hq2, h⟩ := Option.bind_eq_some_iff.mp h
      refine ru_callV (tm_X12_runs hl0 (by omega) hq2) dX12_hour_142 rfl pm_X12_264 mf_X12_runs (ab_rcv_of hrc rfl) rfl rfl (Nat.le_of_ble_eq_true rfl) ?_
      refine ru_if_eq (tgt := 258) dX12_hour_145 (by decide) (fun hc => ?_) (fun hc => ?_)
      · rw [if_pos hc] at h
        exact ru_pick [0, 1] rfl (tbb_X12_hour_258 hl0 hd _ ih _ _ _ _ h)
      · rw [if_neg hc] at h
        refine ru_aload_n (i := 0) dX12_hour_148 rfl rfl <| ru_iload_n (i := 1) dX12_hour_149 rfl rfl <| ru_iconst dX12_hour_150 kc_i_3 <| ?_
        obtain ⟨_, hrc, h⟩ := Option.bind_eq_some_iff.mp h
        obtain ⟨q3, hq3, h⟩ := Option.bind_eq_some_iff.mp h
        refine ru_callV (tm_X12_its hl0 (by omega) hq3) dX12_hour_151 rfl pm_X12_242 mf_X12_its (ab_rcv_of hrc rfl) rfl rfl (Nat.le_of_ble_eq_true rfl) ?_
        refine ru_iconst dX12_hour_154 kc_i_m1 <| ?_
        refine ru_icmp_eq (tgt := 258) dX12_hour_155 (by decide) (fun hc => ?_) (fun hc => ?_)
        · rw [if_pos hc] at h
          exact ru_pick [0, 1] rfl (tbb_X12_hour_258 hl0 hd _ ih _ _ _ _ h)
        · rw [if_neg hc] at h
          refine ru_aload_n (i := 0) dX12_hour_158 rfl rfl <| ?_
          refine ru_getR h dX12_hour_159 lk_X12_7 ?_
          intro v4 h
          refine ru_iload_n (i := 1) dX12_hour_162 rfl rfl <| ru_iconst dX12_hour_163 kc_i_3 <| ?_
          obtain ⟨q5, hq5, h⟩ := Option.bind_eq_some_iff.mp h
          refine ru_callS (tm_X12_of hl0 (by omega) hq5) dX12_hour_164 rfl pm_X12_238 mf_X12_of rfl rfl (Nat.le_of_ble_eq_true rfl) ?_
          refine ru_laload h dX12_hour_167 ?_
          intro v6 h
          refine ru_aload_n (i := 0) dX12_hour_168 rfl rfl <| ?_
          refine ru_getR h dX12_hour_169 lk_X12_7 ?_
          intro v7 h
          refine ru_iconst dX12_hour_172 kc_i_2 <| ru_aload_n (i := 0) dX12_hour_173 rfl rfl <| ru_iload_n (i := 1) dX12_hour_174 rfl rfl <| ru_iconst dX12_hour_175 kc_i_1 <| ?_
          obtain ⟨_, hrc, h⟩ := Option.bind_eq_some_iff.mp h
          obtain ⟨q8, hq8, h⟩ := Option.bind_eq_some_iff.mp h
          refine ru_callV (tm_X12_its hl0 (by omega) hq8) dX12_hour_176 rfl pm_X12_242 mf_X12_its (ab_rcv_of hrc rfl) rfl rfl (Nat.le_of_ble_eq_true rfl) ?_
          refine ru_iadd dX12_hour_179 <| ?_
          refine ru_laload h dX12_hour_180 ?_
          intro v9 h
          refine ru_lcmp dX12_hour_181 <| ?_
          refine ru_if_ge (tgt := 189) dX12_hour_182 (by decide) (fun hc => ?_) (fun hc => ?_)
          · rw [if_pos hc] at h
            refine ru_iconst dX12_hour_189 kc_i_0 <| ?_
            exact ru_pick [0, 1] rfl (tbb_X12_hour_190 hl0 hd _ ih _ _ _ _ _ h)
          · rw [if_neg hc] at h
            refine ru_iconst dX12_hour_185 kc_i_1 <| ru_goto (tgt := 190) dX12_hour_186 (by decide) <| ?_
            exact ru_pick [0, 1] rfl (tbb_X12_hour_190 hl0 hd _ ih _ _ _ _ _ h)
theorem tbb_X12_hour_122 {l : Launch} {g : ab_G} (hl0 : l.stackTraces = false) {d2 : Nat} (hd : 8 ≤ d2 + 1) (r53 : Nat → Int32 → ab_Mm → Option (Unit × ab_Mm)) (hr53 : ∀ (l0 : Nat) (l1 : Int32) (m : ab_Mm) (z : (Unit × ab_Mm)), r53 l0 l1 m = some z → ab_W l g cX12_hour RX12 4 none [] false (d2 + 1) (.inl none) z.2 53 [(0, .ref l0), (1, .int l1)] [] m) (l0 : Nat) (l1 : Int32) (m0 : ab_Mm) (z : (Unit × ab_Mm)) (h : bb_X12_hour_122 r53 l0 l1 m0 = some z) : ab_W l g cX12_hour RX12 4 none [] false (d2 + 1) (.inl none) z.2 122 [(0, .ref l0), (1, .int l1)] [] m0 := by
  unfold bb_X12_hour_122 at h
  refine ru_iinc dX12_hour_122 (by decide) rfl (ab_inc kc_i_1) <| ru_goto (tgt := 53) dX12_hour_125 (by decide) <| ?_
  exact ru_pick [0, 1] rfl (hr53 _ _ _ _ h)
theorem tbb_X12_hour_53 {l : Launch} {g : ab_G} (hl0 : l.stackTraces = false) {d2 : Nat} (hd : 8 ≤ d2 + 1)   : ∀ (n : Nat) (l0 : Nat) (l1 : Int32) (m0 : ab_Mm) (z : (Unit × ab_Mm)), bb_X12_hour_53  n l0 l1 m0 = some z → ab_W l g cX12_hour RX12 4 none [] false (d2 + 1) (.inl none) z.2 53 [(0, .ref l0), (1, .int l1)] [] m0 := by
  intro n
  induction n with
  | zero => intro l0 l1 m0 z h; cases h
  | succ n ih =>
    intro l0 l1 m0 z h
    rw [bb_X12_hour_53] at h
    refine ru_iload_n (i := 1) dX12_hour_53 rfl rfl <| ru_bipush dX12_hour_54 kc_b_12 <| ?_
    refine ru_icmp_ge (tgt := 128) dX12_hour_56 (by decide) (fun hc => ?_) (fun hc => ?_)
    · rw [if_pos hc] at h
      refine ru_aload_n (i := 0) dX12_hour_128 rfl rfl <| ?_
      obtain ⟨_, hrc, h⟩ := Option.bind_eq_some_iff.mp h
      obtain ⟨q1, hq1, h⟩ := Option.bind_eq_some_iff.mp h
      refine ru_callV (tm_X12_setsPrices hl0 (by omega) hq1) dX12_hour_129 rfl pm_X12_258 mf_X12_setsPrices (ab_rcv_of hrc rfl) rfl rfl (Nat.le_of_ble_eq_true rfl) ?_
      refine ru_iconst dX12_hour_132 kc_i_0 <| ru_istore_n (i := 1) dX12_hour_133 rfl (by decide) <| ?_
      exact ru_pick [0, 1] rfl (tbb_X12_hour_134 hl0 hd   _ _ _ _ _ h)
    · rw [if_neg hc] at h
      refine ru_aload_n (i := 0) dX12_hour_59 rfl rfl <| ru_iload_n (i := 1) dX12_hour_60 rfl rfl <| ?_
      obtain ⟨_, hrc, h⟩ := Option.bind_eq_some_iff.mp h
      obtain ⟨q2, hq2, h⟩ := Option.bind_eq_some_iff.mp h
      refine ru_callV (tm_X12_runs hl0 (by omega) hq2) dX12_hour_61 rfl pm_X12_264 mf_X12_runs (ab_rcv_of hrc rfl) rfl rfl (Nat.le_of_ble_eq_true rfl) ?_
      refine ru_if_eq (tgt := 122) dX12_hour_64 (by decide) (fun hc => ?_) (fun hc => ?_)
      · rw [if_pos hc] at h
        exact ru_pick [0, 1] rfl (tbb_X12_hour_122 hl0 hd _ ih _ _ _ _ h)
      · rw [if_neg hc] at h
        refine ru_aload_n (i := 0) dX12_hour_67 rfl rfl <| ru_iload_n (i := 1) dX12_hour_68 rfl rfl <| ru_iconst dX12_hour_69 kc_i_4 <| ?_
        obtain ⟨_, hrc, h⟩ := Option.bind_eq_some_iff.mp h
        obtain ⟨q3, hq3, h⟩ := Option.bind_eq_some_iff.mp h
        refine ru_callV (tm_X12_its hl0 (by omega) hq3) dX12_hour_70 rfl pm_X12_242 mf_X12_its (ab_rcv_of hrc rfl) rfl rfl (Nat.le_of_ble_eq_true rfl) ?_
        refine ru_iconst dX12_hour_73 kc_i_m1 <| ?_
        refine ru_icmp_eq (tgt := 122) dX12_hour_74 (by decide) (fun hc => ?_) (fun hc => ?_)
        · rw [if_pos hc] at h
          exact ru_pick [0, 1] rfl (tbb_X12_hour_122 hl0 hd _ ih _ _ _ _ h)
        · rw [if_neg hc] at h
          refine ru_aload_n (i := 0) dX12_hour_77 rfl rfl <| ?_
          refine ru_getR h dX12_hour_78 lk_X12_7 ?_
          intro v4 h
          refine ru_iload_n (i := 1) dX12_hour_81 rfl rfl <| ru_iconst dX12_hour_82 kc_i_4 <| ?_
          obtain ⟨q5, hq5, h⟩ := Option.bind_eq_some_iff.mp h
          refine ru_callS (tm_X12_of hl0 (by omega) hq5) dX12_hour_83 rfl pm_X12_238 mf_X12_of rfl rfl (Nat.le_of_ble_eq_true rfl) ?_
          refine ru_laload h dX12_hour_86 ?_
          intro v6 h
          refine ru_aload_n (i := 0) dX12_hour_87 rfl rfl <| ?_
          refine ru_getR h dX12_hour_88 lk_X12_7 ?_
          intro v7 h
          refine ru_iconst dX12_hour_91 kc_i_0 <| ?_
          refine ru_laload h dX12_hour_92 ?_
          intro v8 h
          refine ru_lcmp dX12_hour_93 <| ?_
          refine ru_if_gt (tgt := 122) dX12_hour_94 (by decide) (fun hc => ?_) (fun hc => ?_)
          · rw [if_pos hc] at h
            exact ru_pick [0, 1] rfl (tbb_X12_hour_122 hl0 hd _ ih _ _ _ _ h)
          · rw [if_neg hc] at h
            refine ru_aload_n (i := 0) dX12_hour_97 rfl rfl <| ?_
            refine ru_getR h dX12_hour_98 lk_X12_7 ?_
            intro v9 h
            refine ru_iload_n (i := 1) dX12_hour_101 rfl rfl <| ru_iconst dX12_hour_102 kc_i_0 <| ?_
            obtain ⟨q10, hq10, h⟩ := Option.bind_eq_some_iff.mp h
            refine ru_callS (tm_X12_of hl0 (by omega) hq10) dX12_hour_103 rfl pm_X12_238 mf_X12_of rfl rfl (Nat.le_of_ble_eq_true rfl) ?_
            refine ru_ldc2_w dX12_hour_106 pk_X12_256 <| ?_
            refine ru_lastore h dX12_hour_109 ?_
            intro m11 h
            refine ru_aload_n (i := 0) dX12_hour_110 rfl rfl <| ru_dup dX12_hour_111 rfl <| ?_
            refine ru_getI h dX12_hour_112 lk_X12_356 ?_
            intro v12 h
            refine ru_iconst dX12_hour_115 kc_i_1 <| ru_iload_n (i := 1) dX12_hour_116 rfl rfl <| ru_ishl dX12_hour_117 <| ru_ior dX12_hour_118 <| ?_
            refine ru_putI h dX12_hour_119 lk_X12_356 ?_
            intro m13 h
            exact ru_pick [0, 1] rfl (tbb_X12_hour_122 hl0 hd _ ih _ _ _ _ h)
theorem tbb_X12_hour_2 {l : Launch} {g : ab_G} (hl0 : l.stackTraces = false) {d2 : Nat} (hd : 8 ≤ d2 + 1)   : ∀ (n : Nat) (l0 : Nat) (l1 : Int32) (m0 : ab_Mm) (z : (Unit × ab_Mm)), bb_X12_hour_2  n l0 l1 m0 = some z → ab_W l g cX12_hour RX12 4 none [] false (d2 + 1) (.inl none) z.2 2 [(0, .ref l0), (1, .int l1)] [] m0 := by
  intro n
  induction n with
  | zero => intro l0 l1 m0 z h; cases h
  | succ n ih =>
    intro l0 l1 m0 z h
    rw [bb_X12_hour_2] at h
    refine ru_iload_n (i := 1) dX12_hour_2 rfl rfl <| ru_aload_n (i := 0) dX12_hour_3 rfl rfl <| ?_
    refine ru_getR h dX12_hour_4 lk_X12_13 ?_
    intro v1 h
    refine ru_iconst dX12_hour_7 kc_i_2 <| ?_
    refine ru_iaload h dX12_hour_8 ?_
    intro v2 h
    refine ru_icmp_ge (tgt := 36) dX12_hour_9 (by decide) (fun hc => ?_) (fun hc => ?_)
    · rw [if_pos hc] at h
      refine ru_aload_n (i := 0) dX12_hour_36 rfl rfl <| ?_
      refine ru_getR h dX12_hour_37 lk_X12_7 ?_
      intro v3 h
      refine ru_iconst dX12_hour_40 kc_i_0 <| ru_dup2 dX12_hour_41 rfl rfl <| ?_
      refine ru_laload h dX12_hour_42 ?_
      intro v4 h
      refine ru_lconst dX12_hour_43 (v := 1) rfl <| ru_ladd dX12_hour_44 <| ?_
      refine ru_lastore h dX12_hour_45 ?_
      intro m5 h
      refine ru_aload_n (i := 0) dX12_hour_46 rfl rfl <| ru_iconst dX12_hour_47 kc_i_0 <| ?_
      refine ru_putI h dX12_hour_48 lk_X12_356 ?_
      intro m6 h
      refine ru_iconst dX12_hour_51 kc_i_0 <| ru_istore_n (i := 1) dX12_hour_52 rfl (by decide) <| ?_
      exact ru_pick [0, 1] rfl (tbb_X12_hour_53 hl0 hd   _ _ _ _ _ h)
    · rw [if_neg hc] at h
      refine ru_aload_n (i := 0) dX12_hour_12 rfl rfl <| ?_
      refine ru_getR h dX12_hour_13 lk_X12_7 ?_
      intro v7 h
      refine ru_bipush dX12_hour_16 kc_b_8 <| ru_iload_n (i := 1) dX12_hour_18 rfl rfl <| ru_iadd dX12_hour_19 <| ru_dup2 dX12_hour_20 rfl rfl <| ?_
      refine ru_laload h dX12_hour_21 ?_
      intro v8 h
      refine ru_aload_n (i := 0) dX12_hour_22 rfl rfl <| ru_iload_n (i := 1) dX12_hour_23 rfl rfl <| ?_
      obtain ⟨_, hrc, h⟩ := Option.bind_eq_some_iff.mp h
      obtain ⟨q9, hq9, h⟩ := Option.bind_eq_some_iff.mp h
      refine ru_callV (tm_X12_billOf hl0 (by omega) hq9) dX12_hour_24 rfl pm_X12_332 mf_X12_billOf (ab_rcv_of hrc rfl) rfl rfl (Nat.le_of_ble_eq_true rfl) ?_
      refine ru_i2l dX12_hour_27 <| ru_ladd dX12_hour_28 <| ?_
      refine ru_lastore h dX12_hour_29 ?_
      intro m10 h
      refine ru_iinc dX12_hour_30 (by decide) rfl (ab_inc kc_i_1) <| ru_goto (tgt := 2) dX12_hour_33 (by decide) <| ?_
      exact ru_pick [0, 1] rfl (ih _ _ _ _ h)
theorem te_X12_hour {l : Launch} {g : ab_G} (hl0 : l.stackTraces = false) {d2 : Nat} (hd : 8 ≤ d2 + 1)   (l0 : Nat) (m0 : ab_Mm) (z : (Unit × ab_Mm)) (h : dd_X12_hour  l0 m0 = some z) : ab_W l g cX12_hour RX12 4 none [] false (d2 + 1) (.inl none) z.2 0 [(0, .ref l0)] [] m0 := by
  unfold dd_X12_hour at h
  refine ru_iconst dX12_hour_0 kc_i_0 <| ru_istore_n (i := 1) dX12_hour_1 rfl (by decide) <| ?_
  exact ru_pick [0, 1] rfl (tbb_X12_hour_2 hl0 hd   _ _ _ _ _ h)
theorem tm_X12_hour {l : Launch} {g : ab_G} (hl0 : l.stackTraces = false) {d : Nat} (hd : 8 ≤ d) {l0 : Nat} {m : ab_Mm} {z : (Unit × ab_Mm)} (h : dd_X12_hour l0 m = some z) : ab_Met l g yX12_hour cX12_hour 4 none [] d [.ref l0] m (.inl none) z.2 := by
  obtain ⟨d2, rfl⟩ : ∃ d2, d = d2 + 1 := ⟨d - 1, by omega⟩
  exact ab_of hl0 (by decide +kernel) (Nat.le_of_ble_eq_true rfl) (fun q => by cases q) rfl (te_X12_hour hl0 hd _ _ _ h)
theorem tbb_X12_copies_3 {l : Launch} {g : ab_G} (hl0 : l.stackTraces = false) {d2 : Nat} (hd : 1 ≤ d2 + 1)   : ∀ (n : Nat) (l0 : Nat) (l1 : Int32) (l2 : Nat) (l3 : Int32) (l4 : Int32) (l5 : Int32) (m0 : ab_Mm) (z : (Unit × ab_Mm)), bb_X12_copies_3  n l0 l1 l2 l3 l4 l5 m0 = some z → ab_W l g cX12_copies RX12 6 none [] false (d2 + 1) (.inl none) z.2 3 [(0, .ref l0), (1, .int l1), (2, .ref l2), (3, .int l3), (4, .int l4), (5, .int l5)] [] m0 := by
  intro n
  induction n with
  | zero => intro l0 l1 l2 l3 l4 l5 m0 z h; cases h
  | succ n ih =>
    intro l0 l1 l2 l3 l4 l5 m0 z h
    rw [bb_X12_copies_3] at h
    refine ru_iload dX12_copies_3 rfl <| ru_iload dX12_copies_5 rfl <| ?_
    refine ru_icmp_ge (tgt := 28) dX12_copies_7 (by decide) (fun hc => ?_) (fun hc => ?_)
    · rw [if_pos hc] at h
      cases h
      exact ru_ret (v := none) ⟨rfl, dX12_copies_28⟩
    · rw [if_neg hc] at h
      refine ru_aload_n (i := 2) dX12_copies_10 rfl rfl <| ru_iload_n (i := 3) dX12_copies_11 rfl rfl <| ru_iload dX12_copies_12 rfl <| ru_iadd dX12_copies_14 <| ru_aload_n (i := 0) dX12_copies_15 rfl rfl <| ru_iload_n (i := 1) dX12_copies_16 rfl rfl <| ru_iload dX12_copies_17 rfl <| ru_iadd dX12_copies_19 <| ?_
      refine ru_laload h dX12_copies_20 ?_
      intro v1 h
      refine ru_lastore h dX12_copies_21 ?_
      intro m2 h
      refine ru_iinc dX12_copies_22 (by decide) rfl (ab_inc kc_i_1) <| ru_goto (tgt := 3) dX12_copies_25 (by decide) <| ?_
      exact ru_pick [0, 1, 2, 3, 4, 5] rfl (ih _ _ _ _ _ _ _ _ h)
theorem te_X12_copies {l : Launch} {g : ab_G} (hl0 : l.stackTraces = false) {d2 : Nat} (hd : 1 ≤ d2 + 1)   (l0 : Nat) (l1 : Int32) (l2 : Nat) (l3 : Int32) (l4 : Int32) (m0 : ab_Mm) (z : (Unit × ab_Mm)) (h : dd_X12_copies  l0 l1 l2 l3 l4 m0 = some z) : ab_W l g cX12_copies RX12 6 none [] false (d2 + 1) (.inl none) z.2 0 [(0, .ref l0), (1, .int l1), (2, .ref l2), (3, .int l3), (4, .int l4)] [] m0 := by
  unfold dd_X12_copies at h
  refine ru_iconst dX12_copies_0 kc_i_0 <| ru_istore dX12_copies_1 (by decide) <| ?_
  exact ru_pick [0, 1, 2, 3, 4, 5] rfl (tbb_X12_copies_3 hl0 hd   _ _ _ _ _ _ _ _ _ h)
theorem tm_X12_copies {l : Launch} {g : ab_G} (hl0 : l.stackTraces = false) {d : Nat} (hd : 1 ≤ d) {l0 : Nat} {l1 : Int32} {l2 : Nat} {l3 : Int32} {l4 : Int32} {m : ab_Mm} {z : (Unit × ab_Mm)} (h : dd_X12_copies l0 l1 l2 l3 l4 m = some z) : ab_Met l g yX12_copies cX12_copies 6 none [] d [.ref l0, .int l1, .ref l2, .int l3, .int l4] m (.inl none) z.2 := by
  obtain ⟨d2, rfl⟩ : ∃ d2, d = d2 + 1 := ⟨d - 1, by omega⟩
  exact ab_of hl0 (by decide +kernel) (Nat.le_of_ble_eq_true rfl) (fun q => by cases q) rfl (te_X12_copies hl0 hd _ _ _ _ _ _ _ h)
theorem tbb_X12_priceAfter_52 {l : Launch} {g : ab_G} (hl0 : l.stackTraces = false) {d2 : Nat} (hd : 9 ≤ d2 + 1)   : ∀ (n : Nat) (l0 : Nat) (l1 : Int32) (l2 : Int32) (l3 : Int32) (m0 : ab_Mm) (z : (Int32 × ab_Mm)), bb_X12_priceAfter_52  n l0 l1 l2 l3 m0 = some z → ab_W l g cX12_priceAfter RX12 4 (some .int) [] false (d2 + 1) (.inl (some (.int z.1))) z.2 52 [(0, .ref l0), (1, .int l1), (2, .int l2), (3, .int l3)] [] m0 := by
  intro n
  induction n with
  | zero => intro l0 l1 l2 l3 m0 z h; cases h
  | succ n ih =>
    intro l0 l1 l2 l3 m0 z h
    rw [bb_X12_priceAfter_52] at h
    refine ru_iload_n (i := 3) dX12_priceAfter_52 rfl rfl <| ru_iload_n (i := 2) dX12_priceAfter_53 rfl rfl <| ?_
    refine ru_icmp_ge (tgt := 67) dX12_priceAfter_54 (by decide) (fun hc => ?_) (fun hc => ?_)
    · rw [if_pos hc] at h
      refine ru_aload_n (i := 0) dX12_priceAfter_67 rfl rfl <| ?_
      refine ru_getR h dX12_priceAfter_68 lk_X12_7 ?_
      intro v1 h
      refine ru_iconst dX12_priceAfter_71 kc_i_2 <| ru_iload_n (i := 1) dX12_priceAfter_72 rfl rfl <| ru_iadd dX12_priceAfter_73 <| ?_
      refine ru_laload h dX12_priceAfter_74 ?_
      intro v2 h
      refine ru_l2i dX12_priceAfter_75 <| ru_istore_n (i := 3) dX12_priceAfter_76 rfl (by decide) <| ru_aload_n (i := 0) dX12_priceAfter_77 rfl rfl <| ?_
      refine ru_getR h dX12_priceAfter_78 lk_X12_61 ?_
      intro v3 h
      refine ru_iconst dX12_priceAfter_81 kc_i_0 <| ru_aload_n (i := 0) dX12_priceAfter_82 rfl rfl <| ?_
      refine ru_getR h dX12_priceAfter_83 lk_X12_7 ?_
      intro v4 h
      refine ru_iconst dX12_priceAfter_86 kc_i_0 <| ru_bipush dX12_priceAfter_87 kc_b_116 <| ?_
      obtain ⟨q5, hq5, h⟩ := Option.bind_eq_some_iff.mp h
      refine ru_callS (tm_X12_copies hl0 (by omega) hq5) dX12_priceAfter_89 rfl pm_X12_371 mf_X12_copies rfl rfl (Nat.le_of_ble_eq_true rfl) ?_
      refine ru_iload_n (i := 3) dX12_priceAfter_92 rfl rfl <| ?_
      cases h
      exact ru_ret (v := some (.int _)) ⟨_, rfl, rfl, dX12_priceAfter_93⟩
    · rw [if_neg hc] at h
      refine ru_aload_n (i := 0) dX12_priceAfter_57 rfl rfl <| ?_
      obtain ⟨_, hrc, h⟩ := Option.bind_eq_some_iff.mp h
      obtain ⟨q6, hq6, h⟩ := Option.bind_eq_some_iff.mp h
      refine ru_callV (tm_X12_hour hl0 (by omega) hq6) dX12_priceAfter_58 rfl pm_X12_375 mf_X12_hour (ab_rcv_of hrc rfl) rfl rfl (Nat.le_of_ble_eq_true rfl) ?_
      refine ru_iinc dX12_priceAfter_61 (by decide) rfl (ab_inc kc_i_1) <| ru_goto (tgt := 52) dX12_priceAfter_64 (by decide) <| ?_
      exact ru_pick [0, 1, 2, 3] rfl (ih _ _ _ _ _ _ h)
theorem tbb_X12_priceAfter_33 {l : Launch} {g : ab_G} (hl0 : l.stackTraces = false) {d2 : Nat} (hd : 9 ≤ d2 + 1)    (m0 : ab_Mm) (z : (Int32 × ab_Mm)) (h : bb_X12_priceAfter_33   m0 = some z) : ab_W l g cX12_priceAfter RX12 4 (some .int) [] false (d2 + 1) (.inl (some (.int z.1))) z.2 33 [] [] m0 := by
  unfold bb_X12_priceAfter_33 at h
  refine ru_iconst dX12_priceAfter_33 kc_i_0 <| ?_
  cases h
  exact ru_ret (v := some (.int _)) ⟨_, rfl, rfl, dX12_priceAfter_34⟩
theorem tbb_X12_priceAfter_26 {l : Launch} {g : ab_G} (hl0 : l.stackTraces = false) {d2 : Nat} (hd : 9 ≤ d2 + 1)   (l0 : Nat) (l1 : Int32) (l2 : Int32) (s0 : Nat) (s1 : Int32) (m0 : ab_Mm) (z : (Int32 × ab_Mm)) (h : bb_X12_priceAfter_26  l0 l1 l2 s0 s1 m0 = some z) : ab_W l g cX12_priceAfter RX12 4 (some .int) [] false (d2 + 1) (.inl (some (.int z.1))) z.2 26 [(0, .ref l0), (1, .int l1), (2, .int l2)] [.int s1, .ref s0] m0 := by
  unfold bb_X12_priceAfter_26 at h
  refine ru_iconst dX12_priceAfter_26 kc_i_2 <| ?_
  obtain ⟨_, hrc, h⟩ := Option.bind_eq_some_iff.mp h
  obtain ⟨q1, hq1, h⟩ := Option.bind_eq_some_iff.mp h
  refine ru_callV (tm_X12_throwsIf hl0 (by omega) hq1) dX12_priceAfter_27 rfl pm_X12_249 mf_X12_throwsIf (ab_rcv_of hrc rfl) rfl rfl (Nat.le_of_ble_eq_true rfl) ?_
  refine ru_if_eq (tgt := 35) dX12_priceAfter_30 (by decide) (fun hc => ?_) (fun hc => ?_)
  · rw [if_pos hc] at h
    refine ru_aload_n (i := 0) dX12_priceAfter_35 rfl rfl <| ?_
    refine ru_getR h dX12_priceAfter_36 lk_X12_7 ?_
    intro v2 h
    refine ru_iconst dX12_priceAfter_39 kc_i_0 <| ru_aload_n (i := 0) dX12_priceAfter_40 rfl rfl <| ?_
    refine ru_getR h dX12_priceAfter_41 lk_X12_61 ?_
    intro v3 h
    refine ru_iconst dX12_priceAfter_44 kc_i_0 <| ru_bipush dX12_priceAfter_45 kc_b_116 <| ?_
    obtain ⟨q4, hq4, h⟩ := Option.bind_eq_some_iff.mp h
    refine ru_callS (tm_X12_copies hl0 (by omega) hq4) dX12_priceAfter_47 rfl pm_X12_371 mf_X12_copies rfl rfl (Nat.le_of_ble_eq_true rfl) ?_
    refine ru_iconst dX12_priceAfter_50 kc_i_0 <| ru_istore_n (i := 3) dX12_priceAfter_51 rfl (by decide) <| ?_
    exact ru_pick [0, 1, 2, 3] rfl (tbb_X12_priceAfter_52 hl0 hd   _ _ _ _ _ _ _ h)
  · rw [if_neg hc] at h
    exact ru_pick [] rfl (tbb_X12_priceAfter_33 hl0 hd    _ _ h)
theorem te_X12_priceAfter {l : Launch} {g : ab_G} (hl0 : l.stackTraces = false) {d2 : Nat} (hd : 9 ≤ d2 + 1)   (l0 : Nat) (l1 : Int32) (l2 : Int32) (m0 : ab_Mm) (z : (Int32 × ab_Mm)) (h : dd_X12_priceAfter  l0 l1 l2 m0 = some z) : ab_W l g cX12_priceAfter RX12 4 (some .int) [] false (d2 + 1) (.inl (some (.int z.1))) z.2 0 [(0, .ref l0), (1, .int l1), (2, .int l2)] [] m0 := by
  unfold dd_X12_priceAfter at h
  refine ru_aload_n (i := 0) dX12_priceAfter_0 rfl rfl <| ru_iload_n (i := 1) dX12_priceAfter_1 rfl rfl <| ?_
  obtain ⟨_, hrc, h⟩ := Option.bind_eq_some_iff.mp h
  obtain ⟨q1, hq1, h⟩ := Option.bind_eq_some_iff.mp h
  refine ru_callV (tm_X12_noType hl0 (by omega) hq1) dX12_priceAfter_2 rfl pm_X12_295 mf_X12_noType (ab_rcv_of hrc rfl) rfl rfl (Nat.le_of_ble_eq_true rfl) ?_
  refine ru_if_ne (tgt := 33) dX12_priceAfter_5 (by decide) (fun hc => ?_) (fun hc => ?_)
  · rw [if_neg hc] at h
    exact ru_pick [] rfl (tbb_X12_priceAfter_33 hl0 hd    _ _ h)
  · rw [if_pos hc] at h
    refine ru_aload_n (i := 0) dX12_priceAfter_8 rfl rfl <| ru_iload_n (i := 2) dX12_priceAfter_9 rfl rfl <| ru_i2l dX12_priceAfter_10 <| ru_lconst dX12_priceAfter_11 (v := 0) rfl <| ru_ldc2_w dX12_priceAfter_12 pk_X12_369 <| ?_
    obtain ⟨q2, hq2, h⟩ := Option.bind_eq_some_iff.mp h
    refine ru_callS (tm_X12_within hl0 (by omega) hq2) dX12_priceAfter_15 rfl pm_X12_124 mf_X12_within rfl rfl (Nat.le_of_ble_eq_true rfl) ?_
    refine ru_if_ne (tgt := 25) dX12_priceAfter_18 (by decide) (fun hc => ?_) (fun hc => ?_)
    · rw [if_neg hc] at h
      refine ru_iconst dX12_priceAfter_25 kc_i_0 <| ?_
      exact ru_pick [0, 1, 2] rfl (tbb_X12_priceAfter_26 hl0 hd   _ _ _ _ _ _ _ h)
    · rw [if_pos hc] at h
      refine ru_iconst dX12_priceAfter_21 kc_i_1 <| ru_goto (tgt := 26) dX12_priceAfter_22 (by decide) <| ?_
      exact ru_pick [0, 1, 2] rfl (tbb_X12_priceAfter_26 hl0 hd   _ _ _ _ _ _ _ h)
theorem tm_X12_priceAfter {l : Launch} {g : ab_G} (hl0 : l.stackTraces = false) {d : Nat} (hd : 9 ≤ d) {l0 : Nat} {l1 : Int32} {l2 : Int32} {m : ab_Mm} {z : (Int32 × ab_Mm)} (h : dd_X12_priceAfter l0 l1 l2 m = some z) : ab_Met l g yX12_priceAfter cX12_priceAfter 4 (some .int) [] d [.ref l0, .int l1, .int l2] m (.inl (some (.int z.1))) z.2 := by
  obtain ⟨d2, rfl⟩ : ∃ d2, d = d2 + 1 := ⟨d - 1, by omega⟩
  exact ab_of hl0 (by decide +kernel) (Nat.le_of_ble_eq_true rfl) (fun q => by cases q) rfl (te_X12_priceAfter hl0 hd _ _ _ _ _ h)
theorem tbb_X12_evictedAfter_68 {l : Launch} {g : ab_G} (hl0 : l.stackTraces = false) {d2 : Nat} (hd : 9 ≤ d2 + 1)   (l0 : Nat) (l2 : Int32) (m0 : ab_Mm) (z : (Int32 × ab_Mm)) (h : bb_X12_evictedAfter_68  l0 l2 m0 = some z) : ab_W l g cX12_evictedAfter RX12 4 (some .int) [] false (d2 + 1) (.inl (some (.int z.1))) z.2 68 [(0, .ref l0), (2, .int l2)] [] m0 := by
  unfold bb_X12_evictedAfter_68 at h
  refine ru_aload_n (i := 0) dX12_evictedAfter_68 rfl rfl <| ?_
  refine ru_getR h dX12_evictedAfter_69 lk_X12_61 ?_
  intro v1 h
  refine ru_iconst dX12_evictedAfter_72 kc_i_0 <| ru_aload_n (i := 0) dX12_evictedAfter_73 rfl rfl <| ?_
  refine ru_getR h dX12_evictedAfter_74 lk_X12_7 ?_
  intro v2 h
  refine ru_iconst dX12_evictedAfter_77 kc_i_0 <| ru_bipush dX12_evictedAfter_78 kc_b_116 <| ?_
  obtain ⟨q3, hq3, h⟩ := Option.bind_eq_some_iff.mp h
  refine ru_callS (tm_X12_copies hl0 (by omega) hq3) dX12_evictedAfter_80 rfl pm_X12_371 mf_X12_copies rfl rfl (Nat.le_of_ble_eq_true rfl) ?_
  refine ru_iload_n (i := 2) dX12_evictedAfter_83 rfl rfl <| ?_
  cases h
  exact ru_ret (v := some (.int _)) ⟨_, rfl, rfl, dX12_evictedAfter_84⟩
theorem tbb_X12_evictedAfter_61 {l : Launch} {g : ab_G} (hl0 : l.stackTraces = false) {d2 : Nat} (hd : 9 ≤ d2 + 1) (r29 : Nat → Int32 → Int32 → Int32 → ab_Mm → Option (Int32 × ab_Mm)) (hr29 : ∀ (l0 : Nat) (l1 : Int32) (l2 : Int32) (l3 : Int32) (m : ab_Mm) (z : (Int32 × ab_Mm)), r29 l0 l1 l2 l3 m = some z → ab_W l g cX12_evictedAfter RX12 4 (some .int) [] false (d2 + 1) (.inl (some (.int z.1))) z.2 29 [(0, .ref l0), (1, .int l1), (2, .int l2), (3, .int l3)] [] m) (l0 : Nat) (l1 : Int32) (l3 : Int32) (s0 : Int32) (m0 : ab_Mm) (z : (Int32 × ab_Mm)) (h : bb_X12_evictedAfter_61 r29 l0 l1 l3 s0 m0 = some z) : ab_W l g cX12_evictedAfter RX12 4 (some .int) [] false (d2 + 1) (.inl (some (.int z.1))) z.2 61 [(0, .ref l0), (1, .int l1), (3, .int l3)] [.int s0] m0 := by
  unfold bb_X12_evictedAfter_61 at h
  refine ru_istore_n (i := 2) dX12_evictedAfter_61 rfl (by decide) <| ru_iinc dX12_evictedAfter_62 (by decide) rfl (ab_inc kc_i_1) <| ru_goto (tgt := 29) dX12_evictedAfter_65 (by decide) <| ?_
  exact ru_pick [0, 1, 2, 3] rfl (hr29 _ _ _ _ _ _ h)
theorem tbb_X12_evictedAfter_29 {l : Launch} {g : ab_G} (hl0 : l.stackTraces = false) {d2 : Nat} (hd : 9 ≤ d2 + 1)   : ∀ (n : Nat) (l0 : Nat) (l1 : Int32) (l2 : Int32) (l3 : Int32) (m0 : ab_Mm) (z : (Int32 × ab_Mm)), bb_X12_evictedAfter_29  n l0 l1 l2 l3 m0 = some z → ab_W l g cX12_evictedAfter RX12 4 (some .int) [] false (d2 + 1) (.inl (some (.int z.1))) z.2 29 [(0, .ref l0), (1, .int l1), (2, .int l2), (3, .int l3)] [] m0 := by
  intro n
  induction n with
  | zero => intro l0 l1 l2 l3 m0 z h; cases h
  | succ n ih =>
    intro l0 l1 l2 l3 m0 z h
    rw [bb_X12_evictedAfter_29] at h
    refine ru_iload_n (i := 3) dX12_evictedAfter_29 rfl rfl <| ru_sipush dX12_evictedAfter_30 kc_s_200 <| ?_
    refine ru_icmp_gt (tgt := 68) dX12_evictedAfter_33 (by decide) (fun hc => ?_) (fun hc => ?_)
    · rw [if_pos hc] at h
      exact ru_pick [0, 2] rfl (tbb_X12_evictedAfter_68 hl0 hd   _ _ _ _ h)
    · rw [if_neg hc] at h
      refine ru_iload_n (i := 2) dX12_evictedAfter_36 rfl rfl <| ru_iconst dX12_evictedAfter_37 kc_i_m1 <| ?_
      refine ru_icmp_ne (tgt := 68) dX12_evictedAfter_38 (by decide) (fun hc => ?_) (fun hc => ?_)
      · rw [if_neg hc] at h
        exact ru_pick [0, 2] rfl (tbb_X12_evictedAfter_68 hl0 hd   _ _ _ _ h)
      · rw [if_pos hc] at h
        refine ru_aload_n (i := 0) dX12_evictedAfter_41 rfl rfl <| ?_
        obtain ⟨_, hrc, h⟩ := Option.bind_eq_some_iff.mp h
        obtain ⟨q1, hq1, h⟩ := Option.bind_eq_some_iff.mp h
        refine ru_callV (tm_X12_hour hl0 (by omega) hq1) dX12_evictedAfter_42 rfl pm_X12_375 mf_X12_hour (ab_rcv_of hrc rfl) rfl rfl (Nat.le_of_ble_eq_true rfl) ?_
        refine ru_aload_n (i := 0) dX12_evictedAfter_45 rfl rfl <| ?_
        refine ru_getI h dX12_evictedAfter_46 lk_X12_356 ?_
        intro v2 h
        refine ru_iload_n (i := 1) dX12_evictedAfter_49 rfl rfl <| ?_
        obtain ⟨q3, hq3, h⟩ := Option.bind_eq_some_iff.mp h
        refine ru_callS (tm_X12_has hl0 (by omega) hq3) dX12_evictedAfter_50 rfl pm_X12_159 mf_X12_has rfl rfl (Nat.le_of_ble_eq_true rfl) ?_
        refine ru_if_eq (tgt := 60) dX12_evictedAfter_53 (by decide) (fun hc => ?_) (fun hc => ?_)
        · rw [if_pos hc] at h
          refine ru_iconst dX12_evictedAfter_60 kc_i_m1 <| ?_
          exact ru_pick [0, 1, 3] rfl (tbb_X12_evictedAfter_61 hl0 hd _ ih _ _ _ _ _ _ h)
        · rw [if_neg hc] at h
          refine ru_iload_n (i := 3) dX12_evictedAfter_56 rfl rfl <| ru_goto (tgt := 61) dX12_evictedAfter_57 (by decide) <| ?_
          exact ru_pick [0, 1, 3] rfl (tbb_X12_evictedAfter_61 hl0 hd _ ih _ _ _ _ _ _ h)
theorem te_X12_evictedAfter {l : Launch} {g : ab_G} (hl0 : l.stackTraces = false) {d2 : Nat} (hd : 9 ≤ d2 + 1)   (l0 : Nat) (l1 : Int32) (m0 : ab_Mm) (z : (Int32 × ab_Mm)) (h : dd_X12_evictedAfter  l0 l1 m0 = some z) : ab_W l g cX12_evictedAfter RX12 4 (some .int) [] false (d2 + 1) (.inl (some (.int z.1))) z.2 0 [(0, .ref l0), (1, .int l1)] [] m0 := by
  unfold dd_X12_evictedAfter at h
  refine ru_aload_n (i := 0) dX12_evictedAfter_0 rfl rfl <| ru_iload_n (i := 1) dX12_evictedAfter_1 rfl rfl <| ?_
  obtain ⟨_, hrc, h⟩ := Option.bind_eq_some_iff.mp h
  obtain ⟨q1, hq1, h⟩ := Option.bind_eq_some_iff.mp h
  refine ru_callV (tm_X12_noInstance hl0 (by omega) hq1) dX12_evictedAfter_2 rfl pm_X12_304 mf_X12_noInstance (ab_rcv_of hrc rfl) rfl rfl (Nat.le_of_ble_eq_true rfl) ?_
  refine ru_if_eq (tgt := 10) dX12_evictedAfter_5 (by decide) (fun hc => ?_) (fun hc => ?_)
  · rw [if_pos hc] at h
    refine ru_aload_n (i := 0) dX12_evictedAfter_10 rfl rfl <| ?_
    refine ru_getR h dX12_evictedAfter_11 lk_X12_7 ?_
    intro v2 h
    refine ru_iconst dX12_evictedAfter_14 kc_i_0 <| ru_aload_n (i := 0) dX12_evictedAfter_15 rfl rfl <| ?_
    refine ru_getR h dX12_evictedAfter_16 lk_X12_61 ?_
    intro v3 h
    refine ru_iconst dX12_evictedAfter_19 kc_i_0 <| ru_bipush dX12_evictedAfter_20 kc_b_116 <| ?_
    obtain ⟨q4, hq4, h⟩ := Option.bind_eq_some_iff.mp h
    refine ru_callS (tm_X12_copies hl0 (by omega) hq4) dX12_evictedAfter_22 rfl pm_X12_371 mf_X12_copies rfl rfl (Nat.le_of_ble_eq_true rfl) ?_
    refine ru_iconst dX12_evictedAfter_25 kc_i_m1 <| ru_istore_n (i := 2) dX12_evictedAfter_26 rfl (by decide) <| ru_iconst dX12_evictedAfter_27 kc_i_1 <| ru_istore_n (i := 3) dX12_evictedAfter_28 rfl (by decide) <| ?_
    exact ru_pick [0, 1, 2, 3] rfl (tbb_X12_evictedAfter_29 hl0 hd   _ _ _ _ _ _ _ h)
  · rw [if_neg hc] at h
    refine ru_iconst dX12_evictedAfter_8 kc_i_0 <| ?_
    cases h
    exact ru_ret (v := some (.int _)) ⟨_, rfl, rfl, dX12_evictedAfter_9⟩
theorem tm_X12_evictedAfter {l : Launch} {g : ab_G} (hl0 : l.stackTraces = false) {d : Nat} (hd : 9 ≤ d) {l0 : Nat} {l1 : Int32} {m : ab_Mm} {z : (Int32 × ab_Mm)} (h : dd_X12_evictedAfter l0 l1 m = some z) : ab_Met l g yX12_evictedAfter cX12_evictedAfter 4 (some .int) [] d [.ref l0, .int l1] m (.inl (some (.int z.1))) z.2 := by
  obtain ⟨d2, rfl⟩ : ∃ d2, d = d2 + 1 := ⟨d - 1, by omega⟩
  exact ab_of hl0 (by decide +kernel) (Nat.le_of_ble_eq_true rfl) (fun q => by cases q) rfl (te_X12_evictedAfter hl0 hd _ _ _ _ h)
