/-! ===== the methods keep to these functions (by program) ===== -/
theorem te_X11_stop {l : Launch} {g : ab_G} (hl0 : l.stackTraces = false) {d2 : Nat} (hd : 5 ≤ d2 + 1)   (l0 : Nat) (l1 : Int32) (m0 : ab_Mm) (z : ((Int32 ⊕ Nat) × ab_Mm)) (h : dd_X11_stop  l0 l1 m0 = some z) : ab_W l g cX11_stop RX11 3 (some .int) [] false (d2 + 1) (ab_oxI z.1) z.2 0 [(0, .ref l0), (1, .int l1)] [] m0 := by
  unfold dd_X11_stop at h
  refine ru_aload_n (i := 0) dX11_stop_0 rfl rfl <| ru_iload_n (i := 1) dX11_stop_1 rfl rfl <| ?_
  obtain ⟨_, hrc, h⟩ := Option.bind_eq_some_iff.mp h
  obtain ⟨q1, hq1, h⟩ := Option.bind_eq_some_iff.mp h
  obtain ⟨v1, m1⟩ := q1
  cases v1 with
  | inl v1 =>
    dsimp only at h
    refine ru_callV (tm_X11_needInstance hl0 (by omega) hq1) dX11_stop_2 rfl pm_X11_152 mf_X11_needInstance (ab_rcv_of hrc rfl) rfl rfl (Nat.le_of_ble_eq_true rfl) ?_
    refine ru_aload_n (i := 0) dX11_stop_5 rfl rfl <| ?_
    refine ru_getR h dX11_stop_6 lk_X11_36 ?_
    intro v2 h
    refine ru_aload_n (i := 0) dX11_stop_9 rfl rfl <| ?_
    refine ru_getR h dX11_stop_10 lk_X11_26 ?_
    intro v3 h
    obtain ⟨_, hrc, h⟩ := Option.bind_eq_some_iff.mp h
    obtain ⟨q4, hq4, h⟩ := Option.bind_eq_some_iff.mp h
    refine ru_callV (tm_X4_remember hl0 (by omega) hq4) dX11_stop_13 rfl pm_X11_246 mf_X4_remember (ab_rcv_of hrc rfl) rfl rfl (Nat.le_of_ble_eq_true rfl) ?_
    refine ru_aload_n (i := 0) dX11_stop_16 rfl rfl <| ?_
    refine ru_getR h dX11_stop_17 lk_X11_26 ?_
    intro v5 h
    refine ru_getR h dX11_stop_20 lk_X11_155 ?_
    intro v6 h
    refine ru_iload_n (i := 1) dX11_stop_23 rfl rfl <| ru_iconst dX11_stop_24 kc_i_3 <| ?_
    obtain ⟨_, hrc, h⟩ := Option.bind_eq_some_iff.mp h
    obtain ⟨q7, hq7, h⟩ := Option.bind_eq_some_iff.mp h
    refine ru_callV (tm_X10_get hl0 (by omega) hq7) dX11_stop_25 rfl pm_X11_138 mf_X10_get (ab_rcv_of hrc rfl) rfl rfl (Nat.le_of_ble_eq_true rfl) ?_
    refine ru_istore_n (i := 2) dX11_stop_28 rfl (by decide) <| ru_aload_n (i := 0) dX11_stop_29 rfl rfl <| ?_
    refine ru_getR h dX11_stop_30 lk_X11_26 ?_
    intro v8 h
    refine ru_aload_n (i := 0) dX11_stop_33 rfl rfl <| ?_
    refine ru_getR h dX11_stop_34 lk_X11_19 ?_
    intro v9 h
    refine ru_iload_n (i := 1) dX11_stop_37 rfl rfl <| ?_
    obtain ⟨_, hrc, h⟩ := Option.bind_eq_some_iff.mp h
    obtain ⟨q10, hq10, h⟩ := Option.bind_eq_some_iff.mp h
    refine ru_callV (tm_X8_end hl0 (by omega) hq10) dX11_stop_38 rfl pm_X11_279 mf_X8_end (ab_rcv_of hrc rfl) rfl rfl (Nat.le_of_ble_eq_true rfl) ?_
    refine ru_iload_n (i := 2) dX11_stop_41 rfl rfl <| ?_
    cases h
    exact ru_ret (v := some (.int _)) ⟨_, rfl, rfl, dX11_stop_42⟩
  | inr v1 =>
    dsimp only at h
    cases h
    exact ru_callVX (tm_X11_needInstance hl0 (by omega) hq1) dX11_stop_2 rfl pm_X11_152 mf_X11_needInstance (ab_rcv_of hrc rfl) rfl rfl (Nat.le_of_ble_eq_true rfl) rfl
theorem tm_X11_stop {l : Launch} {g : ab_G} (hl0 : l.stackTraces = false) {d : Nat} (hd : 5 ≤ d) {l0 : Nat} {l1 : Int32} {m : ab_Mm} {z : ((Int32 ⊕ Nat) × ab_Mm)} (h : dd_X11_stop l0 l1 m = some z) : ab_Met l g yX11_stop cX11_stop 3 (some .int) [] d [.ref l0, .int l1] m (ab_oxI z.1) z.2 := by
  obtain ⟨d2, rfl⟩ : ∃ d2, d = d2 + 1 := ⟨d - 1, by omega⟩
  exact ab_of hl0 (by decide +kernel) (Nat.le_of_ble_eq_true rfl) (fun q => by cases q) rfl (te_X11_stop hl0 hd _ _ _ _ h)
theorem te_X11_evict {l : Launch} {g : ab_G} (hl0 : l.stackTraces = false) {d2 : Nat} (hd : 4 ≤ d2 + 1)   (l0 : Nat) (l1 : Int32) (m0 : ab_Mm) (z : ((Int32 ⊕ Nat) × ab_Mm)) (h : dd_X11_evict  l0 l1 m0 = some z) : ab_W l g cX11_evict RX11 2 (some .int) [] false (d2 + 1) (ab_oxI z.1) z.2 0 [(0, .ref l0), (1, .int l1)] [] m0 := by
  unfold dd_X11_evict at h
  refine ru_aload_n (i := 0) dX11_evict_0 rfl rfl <| ru_iload_n (i := 1) dX11_evict_1 rfl rfl <| ?_
  obtain ⟨_, hrc, h⟩ := Option.bind_eq_some_iff.mp h
  obtain ⟨q1, hq1, h⟩ := Option.bind_eq_some_iff.mp h
  obtain ⟨v1, m1⟩ := q1
  cases v1 with
  | inl v1 =>
    dsimp only at h
    refine ru_callV (tm_X11_needInstance hl0 (by omega) hq1) dX11_evict_2 rfl pm_X11_152 mf_X11_needInstance (ab_rcv_of hrc rfl) rfl rfl (Nat.le_of_ble_eq_true rfl) ?_
    refine ru_aload_n (i := 0) dX11_evict_5 rfl rfl <| ?_
    refine ru_getR h dX11_evict_6 lk_X11_26 ?_
    intro v2 h
    refine ru_getR h dX11_evict_9 lk_X11_155 ?_
    intro v3 h
    refine ru_iload_n (i := 1) dX11_evict_12 rfl rfl <| ru_iconst dX11_evict_13 kc_i_2 <| ?_
    obtain ⟨_, hrc, h⟩ := Option.bind_eq_some_iff.mp h
    obtain ⟨q4, hq4, h⟩ := Option.bind_eq_some_iff.mp h
    refine ru_callV (tm_X10_get hl0 (by omega) hq4) dX11_evict_14 rfl pm_X11_138 mf_X10_get (ab_rcv_of hrc rfl) rfl rfl (Nat.le_of_ble_eq_true rfl) ?_
    refine ru_iconst dX11_evict_17 kc_i_m1 <| ?_
    refine ru_icmp_ne (tgt := 32) dX11_evict_18 (by decide) (fun hc => ?_) (fun hc => ?_)
    · rw [if_neg hc] at h
      refine ru_aload_n (i := 0) dX11_evict_32 rfl rfl <| ?_
      refine ru_getR h dX11_evict_33 lk_X11_26 ?_
      intro v5 h
      refine ru_getR h dX11_evict_36 lk_X11_155 ?_
      intro v6 h
      refine ru_iload_n (i := 1) dX11_evict_39 rfl rfl <| ru_iconst dX11_evict_40 kc_i_4 <| ?_
      obtain ⟨_, hrc, h⟩ := Option.bind_eq_some_iff.mp h
      obtain ⟨q7, hq7, h⟩ := Option.bind_eq_some_iff.mp h
      refine ru_callV (tm_X10_get hl0 (by omega) hq7) dX11_evict_41 rfl pm_X11_138 mf_X10_get (ab_rcv_of hrc rfl) rfl rfl (Nat.le_of_ble_eq_true rfl) ?_
      refine ru_iconst dX11_evict_44 kc_i_m1 <| ?_
      refine ru_icmp_eq (tgt := 59) dX11_evict_45 (by decide) (fun hc => ?_) (fun hc => ?_)
      · rw [if_pos hc] at h
        refine ru_aload_n (i := 0) dX11_evict_59 rfl rfl <| ?_
        refine ru_getR h dX11_evict_60 lk_X11_36 ?_
        intro v8 h
        refine ru_aload_n (i := 0) dX11_evict_63 rfl rfl <| ?_
        refine ru_getR h dX11_evict_64 lk_X11_26 ?_
        intro v9 h
        obtain ⟨_, hrc, h⟩ := Option.bind_eq_some_iff.mp h
        obtain ⟨q10, hq10, h⟩ := Option.bind_eq_some_iff.mp h
        refine ru_callV (tm_X4_remember hl0 (by omega) hq10) dX11_evict_67 rfl pm_X11_246 mf_X4_remember (ab_rcv_of hrc rfl) rfl rfl (Nat.le_of_ble_eq_true rfl) ?_
        refine ru_aload_n (i := 0) dX11_evict_70 rfl rfl <| ?_
        refine ru_getR h dX11_evict_71 lk_X11_26 ?_
        intro v11 h
        refine ru_aload_n (i := 0) dX11_evict_74 rfl rfl <| ?_
        refine ru_getR h dX11_evict_75 lk_X11_19 ?_
        intro v12 h
        refine ru_iload_n (i := 1) dX11_evict_78 rfl rfl <| ?_
        obtain ⟨_, hrc, h⟩ := Option.bind_eq_some_iff.mp h
        obtain ⟨q13, hq13, h⟩ := Option.bind_eq_some_iff.mp h
        refine ru_callV (tm_X8_giveNotice hl0 (by omega) hq13) dX11_evict_79 rfl pm_X11_287 mf_X8_giveNotice (ab_rcv_of hrc rfl) rfl rfl (Nat.le_of_ble_eq_true rfl) ?_
        refine ru_aload_n (i := 0) dX11_evict_82 rfl rfl <| ?_
        refine ru_getR h dX11_evict_83 lk_X11_26 ?_
        intro v14 h
        refine ru_getR h dX11_evict_86 lk_X11_155 ?_
        intro v15 h
        refine ru_iload_n (i := 1) dX11_evict_89 rfl rfl <| ru_iconst dX11_evict_90 kc_i_4 <| ?_
        obtain ⟨_, hrc, h⟩ := Option.bind_eq_some_iff.mp h
        obtain ⟨q16, hq16, h⟩ := Option.bind_eq_some_iff.mp h
        refine ru_callV (tm_X10_get hl0 (by omega) hq16) dX11_evict_91 rfl pm_X11_138 mf_X10_get (ab_rcv_of hrc rfl) rfl rfl (Nat.le_of_ble_eq_true rfl) ?_
        cases h
        exact ru_ret (v := some (.int _)) ⟨_, rfl, rfl, dX11_evict_94⟩
      · rw [if_neg hc] at h
        cases h
        exact ru_throwSW xk_X11_216_220 (text := "the instance has a notice") (by decide +kernel) (Nat.le_of_ble_eq_true rfl) dX11_evict_48 dX11_evict_51 dX11_evict_52 dX11_evict_55 dX11_evict_58
    · rw [if_pos hc] at h
      cases h
      exact ru_throwSW xk_X11_216_220 (text := "a regular instance") (by decide +kernel) (Nat.le_of_ble_eq_true rfl) dX11_evict_21 dX11_evict_24 dX11_evict_25 dX11_evict_28 dX11_evict_31
  | inr v1 =>
    dsimp only at h
    cases h
    exact ru_callVX (tm_X11_needInstance hl0 (by omega) hq1) dX11_evict_2 rfl pm_X11_152 mf_X11_needInstance (ab_rcv_of hrc rfl) rfl rfl (Nat.le_of_ble_eq_true rfl) rfl
theorem tm_X11_evict {l : Launch} {g : ab_G} (hl0 : l.stackTraces = false) {d : Nat} (hd : 4 ≤ d) {l0 : Nat} {l1 : Int32} {m : ab_Mm} {z : ((Int32 ⊕ Nat) × ab_Mm)} (h : dd_X11_evict l0 l1 m = some z) : ab_Met l g yX11_evict cX11_evict 2 (some .int) [] d [.ref l0, .int l1] m (ab_oxI z.1) z.2 := by
  obtain ⟨d2, rfl⟩ : ∃ d2, d = d2 + 1 := ⟨d - 1, by omega⟩
  exact ab_of hl0 (by decide +kernel) (Nat.le_of_ble_eq_true rfl) (fun q => by cases q) rfl (te_X11_evict hl0 hd _ _ _ _ h)
theorem te_X11_migrate {l : Launch} {g : ab_G} (hl0 : l.stackTraces = false) {d2 : Nat} (hd : 6 ≤ d2 + 1)   (l0 : Nat) (l1 : Int32) (l2 : Int32) (m0 : ab_Mm) (z : ((Int32 ⊕ Nat) × ab_Mm)) (h : dd_X11_migrate  l0 l1 l2 m0 = some z) : ab_W l g cX11_migrate RX11 3 (some .int) [] false (d2 + 1) (ab_oxI z.1) z.2 0 [(0, .ref l0), (1, .int l1), (2, .int l2)] [] m0 := by
  unfold dd_X11_migrate at h
  refine ru_aload_n (i := 0) dX11_migrate_0 rfl rfl <| ru_iload_n (i := 1) dX11_migrate_1 rfl rfl <| ?_
  obtain ⟨_, hrc, h⟩ := Option.bind_eq_some_iff.mp h
  obtain ⟨q1, hq1, h⟩ := Option.bind_eq_some_iff.mp h
  obtain ⟨v1, m1⟩ := q1
  cases v1 with
  | inl v1 =>
    dsimp only at h
    refine ru_callV (tm_X11_needInstance hl0 (by omega) hq1) dX11_migrate_2 rfl pm_X11_152 mf_X11_needInstance (ab_rcv_of hrc rfl) rfl rfl (Nat.le_of_ble_eq_true rfl) ?_
    refine ru_aload_n (i := 0) dX11_migrate_5 rfl rfl <| ru_aload_n (i := 0) dX11_migrate_6 rfl rfl <| ?_
    refine ru_getR h dX11_migrate_7 lk_X11_19 ?_
    intro v2 h
    refine ru_getR h dX11_migrate_10 lk_X11_103 ?_
    intro v3 h
    refine ru_iload_n (i := 2) dX11_migrate_13 rfl rfl <| ?_
    obtain ⟨_, hrc, h⟩ := Option.bind_eq_some_iff.mp h
    obtain ⟨q4, hq4, h⟩ := Option.bind_eq_some_iff.mp h
    obtain ⟨v4, m4⟩ := q4
    cases v4 with
    | inl v4 =>
      dsimp only at h
      refine ru_callV (tm_X11_needRow hl0 (by omega) hq4) dX11_migrate_14 rfl pm_X11_115 mf_X11_needRow (ab_rcv_of hrc rfl) rfl rfl (Nat.le_of_ble_eq_true rfl) ?_
      refine ru_aload_n (i := 0) dX11_migrate_17 rfl rfl <| ?_
      refine ru_getR h dX11_migrate_18 lk_X11_26 ?_
      intro v5 h
      refine ru_getR h dX11_migrate_21 lk_X11_155 ?_
      intro v6 h
      refine ru_iload_n (i := 1) dX11_migrate_24 rfl rfl <| ru_iconst dX11_migrate_25 kc_i_3 <| ?_
      obtain ⟨_, hrc, h⟩ := Option.bind_eq_some_iff.mp h
      obtain ⟨q7, hq7, h⟩ := Option.bind_eq_some_iff.mp h
      refine ru_callV (tm_X10_get hl0 (by omega) hq7) dX11_migrate_26 rfl pm_X11_138 mf_X10_get (ab_rcv_of hrc rfl) rfl rfl (Nat.le_of_ble_eq_true rfl) ?_
      refine ru_iload_n (i := 2) dX11_migrate_29 rfl rfl <| ?_
      refine ru_icmp_ne (tgt := 44) dX11_migrate_30 (by decide) (fun hc => ?_) (fun hc => ?_)
      · rw [if_neg hc] at h
        refine ru_aload_n (i := 0) dX11_migrate_44 rfl rfl <| ?_
        refine ru_getR h dX11_migrate_45 lk_X11_26 ?_
        intro v8 h
        refine ru_aload_n (i := 0) dX11_migrate_48 rfl rfl <| ?_
        refine ru_getR h dX11_migrate_49 lk_X11_19 ?_
        intro v9 h
        refine ru_aload_n (i := 0) dX11_migrate_52 rfl rfl <| ?_
        refine ru_getR h dX11_migrate_53 lk_X11_26 ?_
        intro v10 h
        refine ru_getR h dX11_migrate_56 lk_X11_155 ?_
        intro v11 h
        refine ru_iload_n (i := 1) dX11_migrate_59 rfl rfl <| ru_iconst dX11_migrate_60 kc_i_1 <| ?_
        obtain ⟨_, hrc, h⟩ := Option.bind_eq_some_iff.mp h
        obtain ⟨q12, hq12, h⟩ := Option.bind_eq_some_iff.mp h
        refine ru_callV (tm_X10_get hl0 (by omega) hq12) dX11_migrate_61 rfl pm_X11_138 mf_X10_get (ab_rcv_of hrc rfl) rfl rfl (Nat.le_of_ble_eq_true rfl) ?_
        refine ru_iload_n (i := 2) dX11_migrate_64 rfl rfl <| ?_
        obtain ⟨_, hrc, h⟩ := Option.bind_eq_some_iff.mp h
        obtain ⟨q13, hq13, h⟩ := Option.bind_eq_some_iff.mp h
        refine ru_callV (tm_X8_fits hl0 (by omega) hq13) dX11_migrate_65 rfl pm_X11_292 mf_X8_fits (ab_rcv_of hrc rfl) rfl rfl (Nat.le_of_ble_eq_true rfl) ?_
        refine ru_if_ne (tgt := 82) dX11_migrate_68 (by decide) (fun hc => ?_) (fun hc => ?_)
        · rw [if_neg hc] at h
          refine ru_aload_n (i := 0) dX11_migrate_82 rfl rfl <| ?_
          refine ru_getR h dX11_migrate_83 lk_X11_36 ?_
          intro v14 h
          refine ru_aload_n (i := 0) dX11_migrate_86 rfl rfl <| ?_
          refine ru_getR h dX11_migrate_87 lk_X11_26 ?_
          intro v15 h
          obtain ⟨_, hrc, h⟩ := Option.bind_eq_some_iff.mp h
          obtain ⟨q16, hq16, h⟩ := Option.bind_eq_some_iff.mp h
          refine ru_callV (tm_X4_remember hl0 (by omega) hq16) dX11_migrate_90 rfl pm_X11_246 mf_X4_remember (ab_rcv_of hrc rfl) rfl rfl (Nat.le_of_ble_eq_true rfl) ?_
          refine ru_aload_n (i := 0) dX11_migrate_93 rfl rfl <| ?_
          refine ru_getR h dX11_migrate_94 lk_X11_26 ?_
          intro v17 h
          refine ru_aload_n (i := 0) dX11_migrate_97 rfl rfl <| ?_
          refine ru_getR h dX11_migrate_98 lk_X11_19 ?_
          intro v18 h
          refine ru_iload_n (i := 1) dX11_migrate_101 rfl rfl <| ru_iload_n (i := 2) dX11_migrate_102 rfl rfl <| ?_
          obtain ⟨_, hrc, h⟩ := Option.bind_eq_some_iff.mp h
          obtain ⟨q19, hq19, h⟩ := Option.bind_eq_some_iff.mp h
          refine ru_callV (tm_X8_moveTo hl0 (by omega) hq19) dX11_migrate_103 rfl pm_X11_298 mf_X8_moveTo (ab_rcv_of hrc rfl) rfl rfl (Nat.le_of_ble_eq_true rfl) ?_
          cases h
          exact ru_ret (v := some (.int _)) ⟨_, rfl, rfl, dX11_migrate_106⟩
        · rw [if_pos hc] at h
          cases h
          exact ru_throwSW xk_X11_216_220 (text := "the instance does not fit the host") (by decide +kernel) (Nat.le_of_ble_eq_true rfl) dX11_migrate_71 dX11_migrate_74 dX11_migrate_75 dX11_migrate_78 dX11_migrate_81
      · rw [if_pos hc] at h
        cases h
        exact ru_throwSW xk_X11_216_220 (text := "the instance is on this host") (by decide +kernel) (Nat.le_of_ble_eq_true rfl) dX11_migrate_33 dX11_migrate_36 dX11_migrate_37 dX11_migrate_40 dX11_migrate_43
    | inr v4 =>
      dsimp only at h
      cases h
      exact ru_callVX (tm_X11_needRow hl0 (by omega) hq4) dX11_migrate_14 rfl pm_X11_115 mf_X11_needRow (ab_rcv_of hrc rfl) rfl rfl (Nat.le_of_ble_eq_true rfl) rfl
  | inr v1 =>
    dsimp only at h
    cases h
    exact ru_callVX (tm_X11_needInstance hl0 (by omega) hq1) dX11_migrate_2 rfl pm_X11_152 mf_X11_needInstance (ab_rcv_of hrc rfl) rfl rfl (Nat.le_of_ble_eq_true rfl) rfl
theorem tm_X11_migrate {l : Launch} {g : ab_G} (hl0 : l.stackTraces = false) {d : Nat} (hd : 6 ≤ d) {l0 : Nat} {l1 : Int32} {l2 : Int32} {m : ab_Mm} {z : ((Int32 ⊕ Nat) × ab_Mm)} (h : dd_X11_migrate l0 l1 l2 m = some z) : ab_Met l g yX11_migrate cX11_migrate 3 (some .int) [] d [.ref l0, .int l1, .int l2] m (ab_oxI z.1) z.2 := by
  obtain ⟨d2, rfl⟩ : ∃ d2, d = d2 + 1 := ⟨d - 1, by omega⟩
  exact ab_of hl0 (by decide +kernel) (Nat.le_of_ble_eq_true rfl) (fun q => by cases q) rfl (te_X11_migrate hl0 hd _ _ _ _ _ h)
theorem tbb_X11_drain_33 {l : Launch} {g : ab_G} (hl0 : l.stackTraces = false) {d2 : Nat} (hd : 35 ≤ d2 + 1)    (m0 : ab_Mm) (z : ((Int32 ⊕ Nat) × ab_Mm)) (h : bb_X11_drain_33   m0 = some z) : ab_W l g cX11_drain RX11 3 (some .int) [] false (d2 + 1) (ab_oxI z.1) z.2 33 [] [] m0 := by
  unfold bb_X11_drain_33 at h
  cases h
  exact ru_throwSW xk_X11_216_220 (text := "no instances or too many on the host") (by decide +kernel) (Nat.le_of_ble_eq_true rfl) dX11_drain_33 dX11_drain_36 dX11_drain_37 dX11_drain_40 dX11_drain_43
theorem te_X11_drain {l : Launch} {g : ab_G} (hl0 : l.stackTraces = false) {d2 : Nat} (hd : 35 ≤ d2 + 1)   (l0 : Nat) (l1 : Int32) (m0 : ab_Mm) (z : ((Int32 ⊕ Nat) × ab_Mm)) (h : dd_X11_drain  l0 l1 m0 = some z) : ab_W l g cX11_drain RX11 3 (some .int) [] false (d2 + 1) (ab_oxI z.1) z.2 0 [(0, .ref l0), (1, .int l1)] [] m0 := by
  unfold dd_X11_drain at h
  refine ru_aload_n (i := 0) dX11_drain_0 rfl rfl <| ru_aload_n (i := 0) dX11_drain_1 rfl rfl <| ?_
  refine ru_getR h dX11_drain_2 lk_X11_19 ?_
  intro v1 h
  refine ru_getR h dX11_drain_5 lk_X11_103 ?_
  intro v2 h
  refine ru_iload_n (i := 1) dX11_drain_8 rfl rfl <| ?_
  obtain ⟨_, hrc, h⟩ := Option.bind_eq_some_iff.mp h
  obtain ⟨q3, hq3, h⟩ := Option.bind_eq_some_iff.mp h
  obtain ⟨v3, m3⟩ := q3
  cases v3 with
  | inl v3 =>
    dsimp only at h
    refine ru_callV (tm_X11_needRow hl0 (by omega) hq3) dX11_drain_9 rfl pm_X11_115 mf_X11_needRow (ab_rcv_of hrc rfl) rfl rfl (Nat.le_of_ble_eq_true rfl) ?_
    refine ru_aload_n (i := 0) dX11_drain_12 rfl rfl <| ?_
    refine ru_getR h dX11_drain_13 lk_X11_26 ?_
    intro v4 h
    refine ru_iload_n (i := 1) dX11_drain_16 rfl rfl <| ?_
    obtain ⟨_, hrc, h⟩ := Option.bind_eq_some_iff.mp h
    obtain ⟨q5, hq5, h⟩ := Option.bind_eq_some_iff.mp h
    refine ru_callV (tm_X8_setOn hl0 (by omega) hq5) dX11_drain_17 rfl pm_X11_123 mf_X8_setOn (ab_rcv_of hrc rfl) rfl rfl (Nat.le_of_ble_eq_true rfl) ?_
    obtain ⟨q6, hq6, h⟩ := Option.bind_eq_some_iff.mp h
    refine ru_callS (tm_J6_bitCount_0f7a4 hl0 (by omega) hq6) dX11_drain_20 rfl pm_X11_221 mf_J6_bitCount_0f7a4 rfl rfl (Nat.le_of_ble_eq_true rfl) ?_
    refine ru_istore_n (i := 2) dX11_drain_23 rfl (by decide) <| ru_iload_n (i := 2) dX11_drain_24 rfl rfl <| ?_
    refine ru_if_eq (tgt := 33) dX11_drain_25 (by decide) (fun hc => ?_) (fun hc => ?_)
    · rw [if_pos hc] at h
      exact ru_pick [] rfl (tbb_X11_drain_33 hl0 hd    _ _ h)
    · rw [if_neg hc] at h
      refine ru_iload_n (i := 2) dX11_drain_28 rfl rfl <| ru_iconst dX11_drain_29 kc_i_5 <| ?_
      refine ru_icmp_le (tgt := 44) dX11_drain_30 (by decide) (fun hc => ?_) (fun hc => ?_)
      · rw [if_pos hc] at h
        refine ru_aload_n (i := 0) dX11_drain_44 rfl rfl <| ?_
        refine ru_getR h dX11_drain_45 lk_X11_64 ?_
        intro v7 h
        refine ru_aload_n (i := 0) dX11_drain_48 rfl rfl <| ?_
        refine ru_getR h dX11_drain_49 lk_X11_19 ?_
        intro v8 h
        refine ru_aload_n (i := 0) dX11_drain_52 rfl rfl <| ?_
        refine ru_getR h dX11_drain_53 lk_X11_26 ?_
        intro v9 h
        refine ru_iload_n (i := 1) dX11_drain_56 rfl rfl <| ?_
        obtain ⟨_, hrc, h⟩ := Option.bind_eq_some_iff.mp h
        obtain ⟨q10, hq10, h⟩ := Option.bind_eq_some_iff.mp h
        refine ru_callV (tm_X2_plan hl0 (by omega) hq10) dX11_drain_57 rfl pm_X11_228 mf_X2_plan (ab_rcv_of hrc rfl) rfl rfl (Nat.le_of_ble_eq_true rfl) ?_
        refine ru_if_ne (tgt := 74) dX11_drain_60 (by decide) (fun hc => ?_) (fun hc => ?_)
        · rw [if_neg hc] at h
          refine ru_aload_n (i := 0) dX11_drain_74 rfl rfl <| ?_
          refine ru_getR h dX11_drain_75 lk_X11_36 ?_
          intro v11 h
          refine ru_aload_n (i := 0) dX11_drain_78 rfl rfl <| ?_
          refine ru_getR h dX11_drain_79 lk_X11_26 ?_
          intro v12 h
          obtain ⟨_, hrc, h⟩ := Option.bind_eq_some_iff.mp h
          obtain ⟨q13, hq13, h⟩ := Option.bind_eq_some_iff.mp h
          refine ru_callV (tm_X4_remember hl0 (by omega) hq13) dX11_drain_82 rfl pm_X11_246 mf_X4_remember (ab_rcv_of hrc rfl) rfl rfl (Nat.le_of_ble_eq_true rfl) ?_
          refine ru_aload_n (i := 0) dX11_drain_85 rfl rfl <| ?_
          refine ru_getR h dX11_drain_86 lk_X11_64 ?_
          intro v14 h
          refine ru_aload_n (i := 0) dX11_drain_89 rfl rfl <| ?_
          refine ru_getR h dX11_drain_90 lk_X11_19 ?_
          intro v15 h
          refine ru_aload_n (i := 0) dX11_drain_93 rfl rfl <| ?_
          refine ru_getR h dX11_drain_94 lk_X11_26 ?_
          intro v16 h
          obtain ⟨_, hrc, h⟩ := Option.bind_eq_some_iff.mp h
          obtain ⟨q17, hq17, h⟩ := Option.bind_eq_some_iff.mp h
          refine ru_callV (tm_X2_carryOut hl0 (by omega) hq17) dX11_drain_97 rfl pm_X11_305 mf_X2_carryOut (ab_rcv_of hrc rfl) rfl rfl (Nat.le_of_ble_eq_true rfl) ?_
          refine ru_iload_n (i := 2) dX11_drain_100 rfl rfl <| ?_
          cases h
          exact ru_ret (v := some (.int _)) ⟨_, rfl, rfl, dX11_drain_101⟩
        · rw [if_pos hc] at h
          cases h
          exact ru_throwSW xk_X11_216_220 (text := "the host cannot be drained") (by decide +kernel) (Nat.le_of_ble_eq_true rfl) dX11_drain_63 dX11_drain_66 dX11_drain_67 dX11_drain_70 dX11_drain_73
      · rw [if_neg hc] at h
        exact ru_pick [] rfl (tbb_X11_drain_33 hl0 hd    _ _ h)
  | inr v3 =>
    dsimp only at h
    cases h
    exact ru_callVX (tm_X11_needRow hl0 (by omega) hq3) dX11_drain_9 rfl pm_X11_115 mf_X11_needRow (ab_rcv_of hrc rfl) rfl rfl (Nat.le_of_ble_eq_true rfl) rfl
theorem tm_X11_drain {l : Launch} {g : ab_G} (hl0 : l.stackTraces = false) {d : Nat} (hd : 35 ≤ d) {l0 : Nat} {l1 : Int32} {m : ab_Mm} {z : ((Int32 ⊕ Nat) × ab_Mm)} (h : dd_X11_drain l0 l1 m = some z) : ab_Met l g yX11_drain cX11_drain 3 (some .int) [] d [.ref l0, .int l1] m (ab_oxI z.1) z.2 := by
  obtain ⟨d2, rfl⟩ : ∃ d2, d = d2 + 1 := ⟨d - 1, by omega⟩
  exact ab_of hl0 (by decide +kernel) (Nat.le_of_ble_eq_true rfl) (fun q => by cases q) rfl (te_X11_drain hl0 hd _ _ _ _ h)
theorem tbb_X11_undo_25 {l : Launch} {g : ab_G} (hl0 : l.stackTraces = false) {d2 : Nat} (hd : 4 ≤ d2 + 1)   (s0 : Int32) (m0 : ab_Mm) (z : (Int32 × ab_Mm)) (h : bb_X11_undo_25  s0 m0 = some z) : ab_W l g cX11_undo RX11 1 (some .int) [] false (d2 + 1) (.inl (some (.int z.1))) z.2 25 [] [.int s0] m0 := by
  unfold bb_X11_undo_25 at h
  cases h
  exact ru_ret (v := some (.int _)) ⟨_, rfl, rfl, dX11_undo_25⟩
theorem te_X11_undo {l : Launch} {g : ab_G} (hl0 : l.stackTraces = false) {d2 : Nat} (hd : 4 ≤ d2 + 1)   (l0 : Nat) (m0 : ab_Mm) (z : (Int32 × ab_Mm)) (h : dd_X11_undo  l0 m0 = some z) : ab_W l g cX11_undo RX11 1 (some .int) [] false (d2 + 1) (.inl (some (.int z.1))) z.2 0 [(0, .ref l0)] [] m0 := by
  unfold dd_X11_undo at h
  refine ru_aload_n (i := 0) dX11_undo_0 rfl rfl <| ?_
  refine ru_getR h dX11_undo_1 lk_X11_36 ?_
  intro v1 h
  refine ru_aload_n (i := 0) dX11_undo_4 rfl rfl <| ?_
  refine ru_getR h dX11_undo_5 lk_X11_26 ?_
  intro v2 h
  obtain ⟨_, hrc, h⟩ := Option.bind_eq_some_iff.mp h
  obtain ⟨q3, hq3, h⟩ := Option.bind_eq_some_iff.mp h
  refine ru_callV (tm_X4_takeBack hl0 (by omega) hq3) dX11_undo_8 rfl pm_X11_308 mf_X4_takeBack (ab_rcv_of hrc rfl) rfl rfl (Nat.le_of_ble_eq_true rfl) ?_
  refine ru_if_eq (tgt := 24) dX11_undo_11 (by decide) (fun hc => ?_) (fun hc => ?_)
  · rw [if_pos hc] at h
    refine ru_iconst dX11_undo_24 kc_i_m1 <| ?_
    exact ru_pick [] rfl (tbb_X11_undo_25 hl0 hd   _ _ _ h)
  · rw [if_neg hc] at h
    refine ru_aload_n (i := 0) dX11_undo_14 rfl rfl <| ?_
    refine ru_getR h dX11_undo_15 lk_X11_36 ?_
    intro v4 h
    refine ru_getI h dX11_undo_18 lk_X11_312 ?_
    intro v5 h
    refine ru_goto (tgt := 25) dX11_undo_21 (by decide) <| ?_
    exact ru_pick [] rfl (tbb_X11_undo_25 hl0 hd   _ _ _ h)
theorem tm_X11_undo {l : Launch} {g : ab_G} (hl0 : l.stackTraces = false) {d : Nat} (hd : 4 ≤ d) {l0 : Nat} {m : ab_Mm} {z : (Int32 × ab_Mm)} (h : dd_X11_undo l0 m = some z) : ab_Met l g yX11_undo cX11_undo 1 (some .int) [] d [.ref l0] m (.inl (some (.int z.1))) z.2 := by
  obtain ⟨d2, rfl⟩ : ∃ d2, d = d2 + 1 := ⟨d - 1, by omega⟩
  exact ab_of hl0 (by decide +kernel) (Nat.le_of_ble_eq_true rfl) (fun q => by cases q) rfl (te_X11_undo hl0 hd _ _ _ h)
theorem tbb_X11_needSlot_9 {l : Launch} {g : ab_G} (hl0 : l.stackTraces = false) {d2 : Nat} (hd : 1 ≤ d2 + 1)    (m0 : ab_Mm) (z : ((Unit ⊕ Nat) × ab_Mm)) (h : bb_X11_needSlot_9   m0 = some z) : ab_W l g cX11_needSlot RX11 2 none [] false (d2 + 1) (ab_oxV z.1) z.2 9 [] [] m0 := by
  unfold bb_X11_needSlot_9 at h
  cases h
  exact ru_throwSW xk_X11_328_332 (text := "no such slot") (by decide +kernel) (Nat.le_of_ble_eq_true rfl) dX11_needSlot_9 dX11_needSlot_12 dX11_needSlot_13 dX11_needSlot_16 dX11_needSlot_19
theorem te_X11_needSlot {l : Launch} {g : ab_G} (hl0 : l.stackTraces = false) {d2 : Nat} (hd : 1 ≤ d2 + 1)   (l0 : Nat) (l1 : Int32) (m0 : ab_Mm) (z : ((Unit ⊕ Nat) × ab_Mm)) (h : dd_X11_needSlot  l0 l1 m0 = some z) : ab_W l g cX11_needSlot RX11 2 none [] false (d2 + 1) (ab_oxV z.1) z.2 0 [(0, .ref l0), (1, .int l1)] [] m0 := by
  unfold dd_X11_needSlot at h
  refine ru_iload_n (i := 1) dX11_needSlot_0 rfl rfl <| ?_
  refine ru_if_lt (tgt := 9) dX11_needSlot_1 (by decide) (fun hc => ?_) (fun hc => ?_)
  · rw [if_pos hc] at h
    exact ru_pick [] rfl (tbb_X11_needSlot_9 hl0 hd    _ _ h)
  · rw [if_neg hc] at h
    refine ru_iload_n (i := 1) dX11_needSlot_4 rfl rfl <| ru_iconst dX11_needSlot_5 kc_i_2 <| ?_
    refine ru_icmp_lt (tgt := 20) dX11_needSlot_6 (by decide) (fun hc => ?_) (fun hc => ?_)
    · rw [if_pos hc] at h
      cases h
      exact ru_ret (v := none) ⟨rfl, dX11_needSlot_20⟩
    · rw [if_neg hc] at h
      exact ru_pick [] rfl (tbb_X11_needSlot_9 hl0 hd    _ _ h)
theorem tm_X11_needSlot {l : Launch} {g : ab_G} (hl0 : l.stackTraces = false) {d : Nat} (hd : 1 ≤ d) {l0 : Nat} {l1 : Int32} {m : ab_Mm} {z : ((Unit ⊕ Nat) × ab_Mm)} (h : dd_X11_needSlot l0 l1 m = some z) : ab_Met l g yX11_needSlot cX11_needSlot 2 none [] d [.ref l0, .int l1] m (ab_oxV z.1) z.2 := by
  obtain ⟨d2, rfl⟩ : ∃ d2, d = d2 + 1 := ⟨d - 1, by omega⟩
  exact ab_of hl0 (by decide +kernel) (Nat.le_of_ble_eq_true rfl) (fun q => by cases q) rfl (te_X11_needSlot hl0 hd _ _ _ _ h)
theorem te_X11_saveSnapshot {l : Launch} {g : ab_G} (hl0 : l.stackTraces = false) {d2 : Nat} (hd : 4 ≤ d2 + 1)   (l0 : Nat) (l1 : Int32) (m0 : ab_Mm) (z : ((Int32 ⊕ Nat) × ab_Mm)) (h : dd_X11_saveSnapshot  l0 l1 m0 = some z) : ab_W l g cX11_saveSnapshot RX11 3 (some .boolean) [] false (d2 + 1) (ab_oxI z.1) z.2 0 [(0, .ref l0), (1, .int l1)] [] m0 := by
  unfold dd_X11_saveSnapshot at h
  refine ru_aload_n (i := 0) dX11_saveSnapshot_0 rfl rfl <| ru_iload_n (i := 1) dX11_saveSnapshot_1 rfl rfl <| ?_
  obtain ⟨_, hrc, h⟩ := Option.bind_eq_some_iff.mp h
  obtain ⟨q1, hq1, h⟩ := Option.bind_eq_some_iff.mp h
  obtain ⟨v1, m1⟩ := q1
  cases v1 with
  | inl v1 =>
    dsimp only at h
    refine ru_callV (tm_X11_needSlot hl0 (by omega) hq1) dX11_saveSnapshot_2 rfl pm_X11_313 mf_X11_needSlot (ab_rcv_of hrc rfl) rfl rfl (Nat.le_of_ble_eq_true rfl) ?_
    refine ru_aload_n (i := 0) dX11_saveSnapshot_5 rfl rfl <| ?_
    refine ru_getR h dX11_saveSnapshot_6 lk_X11_36 ?_
    intro v2 h
    refine ru_iload_n (i := 1) dX11_saveSnapshot_9 rfl rfl <| ?_
    obtain ⟨_, hrc, h⟩ := Option.bind_eq_some_iff.mp h
    obtain ⟨q3, hq3, h⟩ := Option.bind_eq_some_iff.mp h
    refine ru_callV (tm_X4_isSaved hl0 (by omega) hq3) dX11_saveSnapshot_10 rfl pm_X11_316 mf_X4_isSaved (ab_rcv_of hrc rfl) rfl rfl (Nat.le_of_ble_eq_true rfl) ?_
    refine ru_istore_n (i := 2) dX11_saveSnapshot_13 rfl (by decide) <| ru_aload_n (i := 0) dX11_saveSnapshot_14 rfl rfl <| ?_
    refine ru_getR h dX11_saveSnapshot_15 lk_X11_36 ?_
    intro v4 h
    refine ru_iload_n (i := 1) dX11_saveSnapshot_18 rfl rfl <| ru_aload_n (i := 0) dX11_saveSnapshot_19 rfl rfl <| ?_
    refine ru_getR h dX11_saveSnapshot_20 lk_X11_26 ?_
    intro v5 h
    obtain ⟨_, hrc, h⟩ := Option.bind_eq_some_iff.mp h
    obtain ⟨q6, hq6, h⟩ := Option.bind_eq_some_iff.mp h
    refine ru_callV (tm_X4_save hl0 (by omega) hq6) dX11_saveSnapshot_23 rfl pm_X11_319 mf_X4_save (ab_rcv_of hrc rfl) rfl rfl (Nat.le_of_ble_eq_true rfl) ?_
    refine ru_iload_n (i := 2) dX11_saveSnapshot_26 rfl rfl <| ?_
    rcases ab_iff h with ⟨hc, h⟩ | ⟨hc, h⟩
    · cases h
    cases h
    exact ru_ret (v := some (.int _)) ⟨_, rfl, congrArg Value.int (Classical.not_not.mp hc), dX11_saveSnapshot_27⟩
  | inr v1 =>
    dsimp only at h
    cases h
    exact ru_callVX (tm_X11_needSlot hl0 (by omega) hq1) dX11_saveSnapshot_2 rfl pm_X11_313 mf_X11_needSlot (ab_rcv_of hrc rfl) rfl rfl (Nat.le_of_ble_eq_true rfl) rfl
theorem tm_X11_saveSnapshot {l : Launch} {g : ab_G} (hl0 : l.stackTraces = false) {d : Nat} (hd : 4 ≤ d) {l0 : Nat} {l1 : Int32} {m : ab_Mm} {z : ((Int32 ⊕ Nat) × ab_Mm)} (h : dd_X11_saveSnapshot l0 l1 m = some z) : ab_Met l g yX11_saveSnapshot cX11_saveSnapshot 3 (some .boolean) [] d [.ref l0, .int l1] m (ab_oxI z.1) z.2 := by
  obtain ⟨d2, rfl⟩ : ∃ d2, d = d2 + 1 := ⟨d - 1, by omega⟩
  exact ab_of hl0 (by decide +kernel) (Nat.le_of_ble_eq_true rfl) (fun q => by cases q) rfl (te_X11_saveSnapshot hl0 hd _ _ _ _ h)
theorem te_X11_restoreSnapshot {l : Launch} {g : ab_G} (hl0 : l.stackTraces = false) {d2 : Nat} (hd : 4 ≤ d2 + 1)   (l0 : Nat) (l1 : Int32) (m0 : ab_Mm) (z : ((Int32 ⊕ Nat) × ab_Mm)) (h : dd_X11_restoreSnapshot  l0 l1 m0 = some z) : ab_W l g cX11_restoreSnapshot RX11 2 (some .int) [] false (d2 + 1) (ab_oxI z.1) z.2 0 [(0, .ref l0), (1, .int l1)] [] m0 := by
  unfold dd_X11_restoreSnapshot at h
  refine ru_aload_n (i := 0) dX11_restoreSnapshot_0 rfl rfl <| ru_iload_n (i := 1) dX11_restoreSnapshot_1 rfl rfl <| ?_
  obtain ⟨_, hrc, h⟩ := Option.bind_eq_some_iff.mp h
  obtain ⟨q1, hq1, h⟩ := Option.bind_eq_some_iff.mp h
  obtain ⟨v1, m1⟩ := q1
  cases v1 with
  | inl v1 =>
    dsimp only at h
    refine ru_callV (tm_X11_needSlot hl0 (by omega) hq1) dX11_restoreSnapshot_2 rfl pm_X11_313 mf_X11_needSlot (ab_rcv_of hrc rfl) rfl rfl (Nat.le_of_ble_eq_true rfl) ?_
    refine ru_aload_n (i := 0) dX11_restoreSnapshot_5 rfl rfl <| ?_
    refine ru_getR h dX11_restoreSnapshot_6 lk_X11_36 ?_
    intro v2 h
    refine ru_iload_n (i := 1) dX11_restoreSnapshot_9 rfl rfl <| ?_
    obtain ⟨_, hrc, h⟩ := Option.bind_eq_some_iff.mp h
    obtain ⟨q3, hq3, h⟩ := Option.bind_eq_some_iff.mp h
    refine ru_callV (tm_X4_isSaved hl0 (by omega) hq3) dX11_restoreSnapshot_10 rfl pm_X11_316 mf_X4_isSaved (ab_rcv_of hrc rfl) rfl rfl (Nat.le_of_ble_eq_true rfl) ?_
    refine ru_if_ne (tgt := 27) dX11_restoreSnapshot_13 (by decide) (fun hc => ?_) (fun hc => ?_)
    · rw [if_neg hc] at h
      refine ru_aload_n (i := 0) dX11_restoreSnapshot_27 rfl rfl <| ?_
      refine ru_getR h dX11_restoreSnapshot_28 lk_X11_36 ?_
      intro v4 h
      refine ru_iload_n (i := 1) dX11_restoreSnapshot_31 rfl rfl <| ru_aload_n (i := 0) dX11_restoreSnapshot_32 rfl rfl <| ?_
      refine ru_getR h dX11_restoreSnapshot_33 lk_X11_26 ?_
      intro v5 h
      obtain ⟨_, hrc, h⟩ := Option.bind_eq_some_iff.mp h
      obtain ⟨q6, hq6, h⟩ := Option.bind_eq_some_iff.mp h
      refine ru_callV (tm_X4_restore hl0 (by omega) hq6) dX11_restoreSnapshot_36 rfl pm_X11_325 mf_X4_restore (ab_rcv_of hrc rfl) rfl rfl (Nat.le_of_ble_eq_true rfl) ?_
      refine ru_aload_n (i := 0) dX11_restoreSnapshot_39 rfl rfl <| ?_
      refine ru_getR h dX11_restoreSnapshot_40 lk_X11_26 ?_
      intro v7 h
      refine ru_getI h dX11_restoreSnapshot_43 lk_X11_112 ?_
      intro v8 h
      cases h
      exact ru_ret (v := some (.int _)) ⟨_, rfl, rfl, dX11_restoreSnapshot_46⟩
    · rw [if_pos hc] at h
      cases h
      exact ru_throwSW xk_X11_216_220 (text := "the slot is empty") (by decide +kernel) (Nat.le_of_ble_eq_true rfl) dX11_restoreSnapshot_16 dX11_restoreSnapshot_19 dX11_restoreSnapshot_20 dX11_restoreSnapshot_23 dX11_restoreSnapshot_26
  | inr v1 =>
    dsimp only at h
    cases h
    exact ru_callVX (tm_X11_needSlot hl0 (by omega) hq1) dX11_restoreSnapshot_2 rfl pm_X11_313 mf_X11_needSlot (ab_rcv_of hrc rfl) rfl rfl (Nat.le_of_ble_eq_true rfl) rfl
theorem tm_X11_restoreSnapshot {l : Launch} {g : ab_G} (hl0 : l.stackTraces = false) {d : Nat} (hd : 4 ≤ d) {l0 : Nat} {l1 : Int32} {m : ab_Mm} {z : ((Int32 ⊕ Nat) × ab_Mm)} (h : dd_X11_restoreSnapshot l0 l1 m = some z) : ab_Met l g yX11_restoreSnapshot cX11_restoreSnapshot 2 (some .int) [] d [.ref l0, .int l1] m (ab_oxI z.1) z.2 := by
  obtain ⟨d2, rfl⟩ : ∃ d2, d = d2 + 1 := ⟨d - 1, by omega⟩
  exact ab_of hl0 (by decide +kernel) (Nat.le_of_ble_eq_true rfl) (fun q => by cases q) rfl (te_X11_restoreSnapshot hl0 hd _ _ _ _ h)
