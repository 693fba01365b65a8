/-! ===== the methods keep to these functions (by program) ===== -/
theorem tm_X12_free {l : Launch} {g : ab_G} (hl0 : l.stackTraces = false) {d : Nat} (hd : 5 ≤ d) {l0 : Nat} {l1 : Int32} {l2 : Int32} {m : ab_Mm} {z : (Int32 × ab_Mm)} (h : dd_X12_free l0 l1 l2 m = some z) : ab_Met l g yX12_free cX12_free 3 (some .int) [] d [.ref l0, .int l1, .int l2] m (.inl (some (.int z.1))) z.2 := by
  obtain ⟨d2, rfl⟩ : ∃ d2, d = d2 + 1 := ⟨d - 1, by omega⟩
  exact ab_of hl0 (by decide +kernel) (Nat.le_of_ble_eq_true rfl) (fun q => by cases q) rfl (te_X12_free hl0 hd _ _ _ _ _ h)
theorem tbb_X12_onHost_27 {l : Launch} {g : ab_G} (hl0 : l.stackTraces = false) {d2 : Nat} (hd : 4 ≤ d2 + 1) (r4 : Nat → Int32 → Int32 → Int32 → ab_Mm → Option (Int32 × ab_Mm)) (hr4 : ∀ (l0 : Nat) (l1 : Int32) (l2 : Int32) (l3 : Int32) (m : ab_Mm) (z : (Int32 × ab_Mm)), r4 l0 l1 l2 l3 m = some z → ab_W l g cX12_onHost RX12 4 (some .int) [] false (d2 + 1) (.inl (some (.int z.1))) z.2 4 [(0, .ref l0), (1, .int l1), (2, .int l2), (3, .int l3)] [] m) (l0 : Nat) (l1 : Int32) (l3 : Int32) (s0 : Int32) (s1 : Int32) (m0 : ab_Mm) (z : (Int32 × ab_Mm)) (h : bb_X12_onHost_27 r4 l0 l1 l3 s0 s1 m0 = some z) : ab_W l g cX12_onHost RX12 4 (some .int) [] false (d2 + 1) (.inl (some (.int z.1))) z.2 27 [(0, .ref l0), (1, .int l1), (3, .int l3)] [.int s1, .int s0] m0 := by
  unfold bb_X12_onHost_27 at h
  refine ru_ior dX12_onHost_27 <| ru_istore_n (i := 2) dX12_onHost_28 rfl (by decide) <| ru_iinc dX12_onHost_29 (by decide) rfl (ab_inc kc_i_1) <| ru_goto (tgt := 4) dX12_onHost_32 (by decide) <| ?_
  exact ru_pick [0, 1, 2, 3] rfl (hr4 _ _ _ _ _ _ h)
theorem tbb_X12_onHost_4 {l : Launch} {g : ab_G} (hl0 : l.stackTraces = false) {d2 : Nat} (hd : 4 ≤ d2 + 1)   : ∀ (n : Nat) (l0 : Nat) (l1 : Int32) (l2 : Int32) (l3 : Int32) (m0 : ab_Mm) (z : (Int32 × ab_Mm)), bb_X12_onHost_4  n l0 l1 l2 l3 m0 = some z → ab_W l g cX12_onHost RX12 4 (some .int) [] false (d2 + 1) (.inl (some (.int z.1))) z.2 4 [(0, .ref l0), (1, .int l1), (2, .int l2), (3, .int l3)] [] m0 := by
  intro n
  induction n with
  | zero => intro l0 l1 l2 l3 m0 z h; cases h
  | succ n ih =>
    intro l0 l1 l2 l3 m0 z h
    rw [bb_X12_onHost_4] at h
    refine ru_iload_n (i := 3) dX12_onHost_4 rfl rfl <| ru_bipush dX12_onHost_5 kc_b_12 <| ?_
    refine ru_icmp_ge (tgt := 35) dX12_onHost_7 (by decide) (fun hc => ?_) (fun hc => ?_)
    · rw [if_pos hc] at h
      refine ru_iload_n (i := 2) dX12_onHost_35 rfl rfl <| ?_
      cases h
      exact ru_ret (v := some (.int _)) ⟨_, rfl, rfl, dX12_onHost_36⟩
    · rw [if_neg hc] at h
      refine ru_iload_n (i := 2) dX12_onHost_10 rfl rfl <| ru_aload_n (i := 0) dX12_onHost_11 rfl rfl <| ru_iload_n (i := 3) dX12_onHost_12 rfl rfl <| ru_iload_n (i := 1) dX12_onHost_13 rfl rfl <| ?_
      obtain ⟨_, hrc, h⟩ := Option.bind_eq_some_iff.mp h
      obtain ⟨q1, hq1, h⟩ := Option.bind_eq_some_iff.mp h
      refine ru_callV (tm_X12_isOn hl0 (by omega) hq1) dX12_onHost_14 rfl pm_X12_267 mf_X12_isOn (ab_rcv_of hrc rfl) rfl rfl (Nat.le_of_ble_eq_true rfl) ?_
      refine ru_if_eq (tgt := 26) dX12_onHost_17 (by decide) (fun hc => ?_) (fun hc => ?_)
      · rw [if_pos hc] at h
        refine ru_iconst dX12_onHost_26 kc_i_0 <| ?_
        exact ru_pick [0, 1, 3] rfl (tbb_X12_onHost_27 hl0 hd _ ih _ _ _ _ _ _ _ h)
      · rw [if_neg hc] at h
        refine ru_iconst dX12_onHost_20 kc_i_1 <| ru_iload_n (i := 3) dX12_onHost_21 rfl rfl <| ru_ishl dX12_onHost_22 <| ru_goto (tgt := 27) dX12_onHost_23 (by decide) <| ?_
        exact ru_pick [0, 1, 3] rfl (tbb_X12_onHost_27 hl0 hd _ ih _ _ _ _ _ _ _ h)
theorem te_X12_onHost {l : Launch} {g : ab_G} (hl0 : l.stackTraces = false) {d2 : Nat} (hd : 4 ≤ d2 + 1)   (l0 : Nat) (l1 : Int32) (m0 : ab_Mm) (z : (Int32 × ab_Mm)) (h : dd_X12_onHost  l0 l1 m0 = some z) : ab_W l g cX12_onHost RX12 4 (some .int) [] false (d2 + 1) (.inl (some (.int z.1))) z.2 0 [(0, .ref l0), (1, .int l1)] [] m0 := by
  unfold dd_X12_onHost at h
  refine ru_iconst dX12_onHost_0 kc_i_0 <| ru_istore_n (i := 2) dX12_onHost_1 rfl (by decide) <| ru_iconst dX12_onHost_2 kc_i_0 <| ru_istore_n (i := 3) dX12_onHost_3 rfl (by decide) <| ?_
  exact ru_pick [0, 1, 2, 3] rfl (tbb_X12_onHost_4 hl0 hd   _ _ _ _ _ _ _ h)
theorem tm_X12_onHost {l : Launch} {g : ab_G} (hl0 : l.stackTraces = false) {d : Nat} (hd : 4 ≤ d) {l0 : Nat} {l1 : Int32} {m : ab_Mm} {z : (Int32 × ab_Mm)} (h : dd_X12_onHost l0 l1 m = some z) : ab_Met l g yX12_onHost cX12_onHost 4 (some .int) [] d [.ref l0, .int l1] m (.inl (some (.int z.1))) z.2 := by
  obtain ⟨d2, rfl⟩ : ∃ d2, d = d2 + 1 := ⟨d - 1, by omega⟩
  exact ab_of hl0 (by decide +kernel) (Nat.le_of_ble_eq_true rfl) (fun q => by cases q) rfl (te_X12_onHost hl0 hd _ _ _ _ h)
theorem tbb_X12_instancesOn_17 {l : Launch} {g : ab_G} (hl0 : l.stackTraces = false) {d2 : Nat} (hd : 5 ≤ d2 + 1)   (s0 : Int32) (m0 : ab_Mm) (z : (Int32 × ab_Mm)) (h : bb_X12_instancesOn_17  s0 m0 = some z) : ab_W l g cX12_instancesOn RX12 2 (some .int) [] false (d2 + 1) (.inl (some (.int z.1))) z.2 17 [] [.int s0] m0 := by
  unfold bb_X12_instancesOn_17 at h
  cases h
  exact ru_ret (v := some (.int _)) ⟨_, rfl, rfl, dX12_instancesOn_17⟩
theorem te_X12_instancesOn {l : Launch} {g : ab_G} (hl0 : l.stackTraces = false) {d2 : Nat} (hd : 5 ≤ d2 + 1)   (l0 : Nat) (l1 : Int32) (m0 : ab_Mm) (z : (Int32 × ab_Mm)) (h : dd_X12_instancesOn  l0 l1 m0 = some z) : ab_W l g cX12_instancesOn RX12 2 (some .int) [] false (d2 + 1) (.inl (some (.int z.1))) z.2 0 [(0, .ref l0), (1, .int l1)] [] m0 := by
  unfold dd_X12_instancesOn at h
  refine ru_aload_n (i := 0) dX12_instancesOn_0 rfl rfl <| ru_iload_n (i := 1) dX12_instancesOn_1 rfl rfl <| ?_
  obtain ⟨_, hrc, h⟩ := Option.bind_eq_some_iff.mp h
  obtain ⟨q1, hq1, h⟩ := Option.bind_eq_some_iff.mp h
  refine ru_callV (tm_X12_noHost hl0 (by omega) hq1) dX12_instancesOn_2 rfl pm_X12_289 mf_X12_noHost (ab_rcv_of hrc rfl) rfl rfl (Nat.le_of_ble_eq_true rfl) ?_
  refine ru_if_eq (tgt := 12) dX12_instancesOn_5 (by decide) (fun hc => ?_) (fun hc => ?_)
  · rw [if_pos hc] at h
    refine ru_aload_n (i := 0) dX12_instancesOn_12 rfl rfl <| ru_iload_n (i := 1) dX12_instancesOn_13 rfl rfl <| ?_
    obtain ⟨_, hrc, h⟩ := Option.bind_eq_some_iff.mp h
    obtain ⟨q2, hq2, h⟩ := Option.bind_eq_some_iff.mp h
    refine ru_callV (tm_X12_onHost hl0 (by omega) hq2) dX12_instancesOn_14 rfl pm_X12_292 mf_X12_onHost (ab_rcv_of hrc rfl) rfl rfl (Nat.le_of_ble_eq_true rfl) ?_
    exact ru_pick [] rfl (tbb_X12_instancesOn_17 hl0 hd   _ _ _ h)
  · rw [if_neg hc] at h
    refine ru_iconst dX12_instancesOn_8 kc_i_0 <| ru_goto (tgt := 17) dX12_instancesOn_9 (by decide) <| ?_
    exact ru_pick [] rfl (tbb_X12_instancesOn_17 hl0 hd   _ _ _ h)
theorem tm_X12_instancesOn {l : Launch} {g : ab_G} (hl0 : l.stackTraces = false) {d : Nat} (hd : 5 ≤ d) {l0 : Nat} {l1 : Int32} {m : ab_Mm} {z : (Int32 × ab_Mm)} (h : dd_X12_instancesOn l0 l1 m = some z) : ab_Met l g yX12_instancesOn cX12_instancesOn 2 (some .int) [] d [.ref l0, .int l1] m (.inl (some (.int z.1))) z.2 := by
  obtain ⟨d2, rfl⟩ : ∃ d2, d = d2 + 1 := ⟨d - 1, by omega⟩
  exact ab_of hl0 (by decide +kernel) (Nat.le_of_ble_eq_true rfl) (fun q => by cases q) rfl (te_X12_instancesOn hl0 hd _ _ _ _ h)
theorem tbb_X12_utilisation_29 {l : Launch} {g : ab_G} (hl0 : l.stackTraces = false) {d2 : Nat} (hd : 4 ≤ d2 + 1)   (s0 : UInt64) (m0 : ab_Mm) (z : (UInt64 × ab_Mm)) (h : bb_X12_utilisation_29  s0 m0 = some z) : ab_W l g cX12_utilisation RX12 1 (some .double) [] false (d2 + 1) (.inl (some (.double z.1))) z.2 29 [] [.double s0] m0 := by
  unfold bb_X12_utilisation_29 at h
  cases h
  exact ru_ret (v := some (.double _)) ⟨rfl, dX12_utilisation_29⟩
theorem te_X12_utilisation {l : Launch} {g : ab_G} (hl0 : l.stackTraces = false) {d2 : Nat} (hd : 4 ≤ d2 + 1)   (l0 : Nat) (m0 : ab_Mm) (z : (UInt64 × ab_Mm)) (h : dd_X12_utilisation  l0 m0 = some z) : ab_W l g cX12_utilisation RX12 1 (some .double) [] false (d2 + 1) (.inl (some (.double z.1))) z.2 0 [(0, .ref l0)] [] m0 := by
  unfold dd_X12_utilisation at h
  refine ru_aload_n (i := 0) dX12_utilisation_0 rfl rfl <| ru_iconst dX12_utilisation_1 kc_i_0 <| ?_
  refine ru_putI h dX12_utilisation_2 lk_X12_83 ?_
  intro m1 h
  refine ru_aload_n (i := 0) dX12_utilisation_5 rfl rfl <| ?_
  refine ru_getR h dX12_utilisation_6 lk_X12_13 ?_
  intro v2 h
  refine ru_iconst dX12_utilisation_9 kc_i_0 <| ?_
  refine ru_iaload h dX12_utilisation_10 ?_
  intro v3 h
  refine ru_if_ne (tgt := 18) dX12_utilisation_11 (by decide) (fun hc => ?_) (fun hc => ?_)
  · rw [if_neg hc] at h
    refine ru_aload_n (i := 0) dX12_utilisation_18 rfl rfl <| ?_
    obtain ⟨_, hrc, h⟩ := Option.bind_eq_some_iff.mp h
    obtain ⟨q4, hq4, h⟩ := Option.bind_eq_some_iff.mp h
    refine ru_callV (tm_X12_loadCpu hl0 (by omega) hq4) dX12_utilisation_19 rfl pm_X12_282 mf_X12_loadCpu (ab_rcv_of hrc rfl) rfl rfl (Nat.le_of_ble_eq_true rfl) ?_
    refine ru_i2d dX12_utilisation_22 <| ru_aload_n (i := 0) dX12_utilisation_23 rfl rfl <| ?_
    obtain ⟨_, hrc, h⟩ := Option.bind_eq_some_iff.mp h
    obtain ⟨q5, hq5, h⟩ := Option.bind_eq_some_iff.mp h
    refine ru_callV (tm_X12_allCpu hl0 (by omega) hq5) dX12_utilisation_24 rfl pm_X12_279 mf_X12_allCpu (ab_rcv_of hrc rfl) rfl rfl (Nat.le_of_ble_eq_true rfl) ?_
    refine ru_i2d dX12_utilisation_27 <| ?_
    rcases ab_iff h with ⟨hc, h⟩ | ⟨hc, h⟩
    · cases h
    refine ru_ddiv dX12_utilisation_28 (Classical.not_not.mp hc) ?_
    exact ru_pick [] rfl (tbb_X12_utilisation_29 hl0 hd   _ _ _ h)
  · rw [if_pos hc] at h
    refine ru_dconst0 dX12_utilisation_14 <| ru_goto (tgt := 29) dX12_utilisation_15 (by decide) <| ?_
    exact ru_pick [] rfl (tbb_X12_utilisation_29 hl0 hd   _ _ _ h)
theorem tm_X12_utilisation {l : Launch} {g : ab_G} (hl0 : l.stackTraces = false) {d : Nat} (hd : 4 ≤ d) {l0 : Nat} {m : ab_Mm} {z : (UInt64 × ab_Mm)} (h : dd_X12_utilisation l0 m = some z) : ab_Met l g yX12_utilisation cX12_utilisation 1 (some .double) [] d [.ref l0] m (.inl (some (.double z.1))) z.2 := by
  obtain ⟨d2, rfl⟩ : ∃ d2, d = d2 + 1 := ⟨d - 1, by omega⟩
  exact ab_of hl0 (by decide +kernel) (Nat.le_of_ble_eq_true rfl) (fun q => by cases q) rfl (te_X12_utilisation hl0 hd _ _ _ h)
theorem tbb_X12_spotPrice_21 {l : Launch} {g : ab_G} (hl0 : l.stackTraces = false) {d2 : Nat} (hd : 4 ≤ d2 + 1)   (s0 : Int32) (m0 : ab_Mm) (z : (Int32 × ab_Mm)) (h : bb_X12_spotPrice_21  s0 m0 = some z) : ab_W l g cX12_spotPrice RX12 2 (some .int) [] false (d2 + 1) (.inl (some (.int z.1))) z.2 21 [] [.int s0] m0 := by
  unfold bb_X12_spotPrice_21 at h
  cases h
  exact ru_ret (v := some (.int _)) ⟨_, rfl, rfl, dX12_spotPrice_21⟩
theorem te_X12_spotPrice {l : Launch} {g : ab_G} (hl0 : l.stackTraces = false) {d2 : Nat} (hd : 4 ≤ d2 + 1)   (l0 : Nat) (l1 : Int32) (m0 : ab_Mm) (z : (Int32 × ab_Mm)) (h : dd_X12_spotPrice  l0 l1 m0 = some z) : ab_W l g cX12_spotPrice RX12 2 (some .int) [] false (d2 + 1) (.inl (some (.int z.1))) z.2 0 [(0, .ref l0), (1, .int l1)] [] m0 := by
  unfold dd_X12_spotPrice at h
  refine ru_aload_n (i := 0) dX12_spotPrice_0 rfl rfl <| ru_iload_n (i := 1) dX12_spotPrice_1 rfl rfl <| ?_
  obtain ⟨_, hrc, h⟩ := Option.bind_eq_some_iff.mp h
  obtain ⟨q1, hq1, h⟩ := Option.bind_eq_some_iff.mp h
  refine ru_callV (tm_X12_noType hl0 (by omega) hq1) dX12_spotPrice_2 rfl pm_X12_295 mf_X12_noType (ab_rcv_of hrc rfl) rfl rfl (Nat.le_of_ble_eq_true rfl) ?_
  refine ru_if_eq (tgt := 12) dX12_spotPrice_5 (by decide) (fun hc => ?_) (fun hc => ?_)
  · rw [if_pos hc] at h
    refine ru_aload_n (i := 0) dX12_spotPrice_12 rfl rfl <| ?_
    refine ru_getR h dX12_spotPrice_13 lk_X12_7 ?_
    intro v2 h
    refine ru_iconst dX12_spotPrice_16 kc_i_2 <| ru_iload_n (i := 1) dX12_spotPrice_17 rfl rfl <| ru_iadd dX12_spotPrice_18 <| ?_
    refine ru_laload h dX12_spotPrice_19 ?_
    intro v3 h
    refine ru_l2i dX12_spotPrice_20 <| ?_
    exact ru_pick [] rfl (tbb_X12_spotPrice_21 hl0 hd   _ _ _ h)
  · rw [if_neg hc] at h
    refine ru_iconst dX12_spotPrice_8 kc_i_0 <| ru_goto (tgt := 21) dX12_spotPrice_9 (by decide) <| ?_
    exact ru_pick [] rfl (tbb_X12_spotPrice_21 hl0 hd   _ _ _ h)
theorem tm_X12_spotPrice {l : Launch} {g : ab_G} (hl0 : l.stackTraces = false) {d : Nat} (hd : 4 ≤ d) {l0 : Nat} {l1 : Int32} {m : ab_Mm} {z : (Int32 × ab_Mm)} (h : dd_X12_spotPrice l0 l1 m = some z) : ab_Met l g yX12_spotPrice cX12_spotPrice 2 (some .int) [] d [.ref l0, .int l1] m (.inl (some (.int z.1))) z.2 := by
  obtain ⟨d2, rfl⟩ : ∃ d2, d = d2 + 1 := ⟨d - 1, by omega⟩
  exact ab_of hl0 (by decide +kernel) (Nat.le_of_ble_eq_true rfl) (fun q => by cases q) rfl (te_X12_spotPrice hl0 hd _ _ _ _ h)
theorem tbb_X12_bestHost_17 {l : Launch} {g : ab_G} (hl0 : l.stackTraces = false) {d2 : Nat} (hd : 7 ≤ d2 + 1)   (s0 : Int32) (m0 : ab_Mm) (z : (Int32 × ab_Mm)) (h : bb_X12_bestHost_17  s0 m0 = some z) : ab_W l g cX12_bestHost RX12 2 (some .int) [] false (d2 + 1) (.inl (some (.int z.1))) z.2 17 [] [.int s0] m0 := by
  unfold bb_X12_bestHost_17 at h
  cases h
  exact ru_ret (v := some (.int _)) ⟨_, rfl, rfl, dX12_bestHost_17⟩
theorem te_X12_bestHost {l : Launch} {g : ab_G} (hl0 : l.stackTraces = false) {d2 : Nat} (hd : 7 ≤ d2 + 1)   (l0 : Nat) (l1 : Int32) (m0 : ab_Mm) (z : (Int32 × ab_Mm)) (h : dd_X12_bestHost  l0 l1 m0 = some z) : ab_W l g cX12_bestHost RX12 2 (some .int) [] false (d2 + 1) (.inl (some (.int z.1))) z.2 0 [(0, .ref l0), (1, .int l1)] [] m0 := by
  unfold dd_X12_bestHost at h
  refine ru_aload_n (i := 0) dX12_bestHost_0 rfl rfl <| ru_iload_n (i := 1) dX12_bestHost_1 rfl rfl <| ?_
  obtain ⟨_, hrc, h⟩ := Option.bind_eq_some_iff.mp h
  obtain ⟨q1, hq1, h⟩ := Option.bind_eq_some_iff.mp h
  refine ru_callV (tm_X12_noType hl0 (by omega) hq1) dX12_bestHost_2 rfl pm_X12_295 mf_X12_noType (ab_rcv_of hrc rfl) rfl rfl (Nat.le_of_ble_eq_true rfl) ?_
  refine ru_if_eq (tgt := 12) dX12_bestHost_5 (by decide) (fun hc => ?_) (fun hc => ?_)
  · rw [if_pos hc] at h
    refine ru_aload_n (i := 0) dX12_bestHost_12 rfl rfl <| ru_iload_n (i := 1) dX12_bestHost_13 rfl rfl <| ?_
    obtain ⟨_, hrc, h⟩ := Option.bind_eq_some_iff.mp h
    obtain ⟨q2, hq2, h⟩ := Option.bind_eq_some_iff.mp h
    refine ru_callV (tm_X12_bestFor hl0 (by omega) hq2) dX12_bestHost_14 rfl pm_X12_298 mf_X12_bestFor (ab_rcv_of hrc rfl) rfl rfl (Nat.le_of_ble_eq_true rfl) ?_
    exact ru_pick [] rfl (tbb_X12_bestHost_17 hl0 hd   _ _ _ h)
  · rw [if_neg hc] at h
    refine ru_iconst dX12_bestHost_8 kc_i_0 <| ru_goto (tgt := 17) dX12_bestHost_9 (by decide) <| ?_
    exact ru_pick [] rfl (tbb_X12_bestHost_17 hl0 hd   _ _ _ h)
theorem tm_X12_bestHost {l : Launch} {g : ab_G} (hl0 : l.stackTraces = false) {d : Nat} (hd : 7 ≤ d) {l0 : Nat} {l1 : Int32} {m : ab_Mm} {z : (Int32 × ab_Mm)} (h : dd_X12_bestHost l0 l1 m = some z) : ab_Met l g yX12_bestHost cX12_bestHost 2 (some .int) [] d [.ref l0, .int l1] m (.inl (some (.int z.1))) z.2 := by
  obtain ⟨d2, rfl⟩ : ∃ d2, d = d2 + 1 := ⟨d - 1, by omega⟩
  exact ab_of hl0 (by decide +kernel) (Nat.le_of_ble_eq_true rfl) (fun q => by cases q) rfl (te_X12_bestHost hl0 hd _ _ _ _ h)
theorem tbb_X12_room_75 {l : Launch} {g : ab_G} (hl0 : l.stackTraces = false) {d2 : Nat} (hd : 5 ≤ d2 + 1) (r14 : Nat → Int32 → Int32 → Int32 → ab_Mm → Option (Int32 × ab_Mm)) (hr14 : ∀ (l0 : Nat) (l1 : Int32) (l2 : Int32) (l3 : Int32) (m : ab_Mm) (z : (Int32 × ab_Mm)), r14 l0 l1 l2 l3 m = some z → ab_W l g cX12_room RX12 6 (some .int) [] false (d2 + 1) (.inl (some (.int z.1))) z.2 14 [(0, .ref l0), (1, .int l1), (2, .int l2), (3, .int l3)] [] m) (l0 : Nat) (l1 : Int32) (l3 : Int32) (s0 : Int32) (s1 : Int32) (m0 : ab_Mm) (z : (Int32 × ab_Mm)) (h : bb_X12_room_75 r14 l0 l1 l3 s0 s1 m0 = some z) : ab_W l g cX12_room RX12 6 (some .int) [] false (d2 + 1) (.inl (some (.int z.1))) z.2 75 [(0, .ref l0), (1, .int l1), (3, .int l3)] [.int s1, .int s0] m0 := by
  unfold bb_X12_room_75 at h
  refine ru_iadd dX12_room_75 <| ru_istore_n (i := 2) dX12_room_76 rfl (by decide) <| ru_iinc dX12_room_77 (by decide) rfl (ab_inc kc_i_1) <| ru_goto (tgt := 14) dX12_room_80 (by decide) <| ?_
  exact ru_pick [0, 1, 2, 3] rfl (hr14 _ _ _ _ _ _ h)
theorem tbb_X12_room_14 {l : Launch} {g : ab_G} (hl0 : l.stackTraces = false) {d2 : Nat} (hd : 5 ≤ d2 + 1)   : ∀ (n : Nat) (l0 : Nat) (l1 : Int32) (l2 : Int32) (l3 : Int32) (m0 : ab_Mm) (z : (Int32 × ab_Mm)), bb_X12_room_14  n l0 l1 l2 l3 m0 = some z → ab_W l g cX12_room RX12 6 (some .int) [] false (d2 + 1) (.inl (some (.int z.1))) z.2 14 [(0, .ref l0), (1, .int l1), (2, .int l2), (3, .int l3)] [] m0 := by
  intro n
  induction n with
  | zero => intro l0 l1 l2 l3 m0 z h; cases h
  | succ n ih =>
    intro l0 l1 l2 l3 m0 z h
    rw [bb_X12_room_14] at h
    refine ru_iload_n (i := 3) dX12_room_14 rfl rfl <| ru_aload_n (i := 0) dX12_room_15 rfl rfl <| ?_
    refine ru_getR h dX12_room_16 lk_X12_13 ?_
    intro v1 h
    refine ru_iconst dX12_room_19 kc_i_0 <| ?_
    refine ru_iaload h dX12_room_20 ?_
    intro v2 h
    refine ru_icmp_ge (tgt := 83) dX12_room_21 (by decide) (fun hc => ?_) (fun hc => ?_)
    · rw [if_pos hc] at h
      refine ru_iload_n (i := 2) dX12_room_83 rfl rfl <| ?_
      cases h
      exact ru_ret (v := some (.int _)) ⟨_, rfl, rfl, dX12_room_84⟩
    · rw [if_neg hc] at h
      refine ru_aload_n (i := 0) dX12_room_24 rfl rfl <| ru_iload_n (i := 3) dX12_room_25 rfl rfl <| ru_iconst dX12_room_26 kc_i_0 <| ?_
      obtain ⟨_, hrc, h⟩ := Option.bind_eq_some_iff.mp h
      obtain ⟨q3, hq3, h⟩ := Option.bind_eq_some_iff.mp h
      refine ru_callV (tm_X12_freeOf hl0 (by omega) hq3) dX12_room_27 rfl pm_X12_270 mf_X12_freeOf (ab_rcv_of hrc rfl) rfl rfl (Nat.le_of_ble_eq_true rfl) ?_
      refine ru_aload_n (i := 0) dX12_room_30 rfl rfl <| ?_
      refine ru_getR h dX12_room_31 lk_X12_20 ?_
      intro v4 h
      refine ru_iconst dX12_room_34 kc_i_3 <| ru_iload_n (i := 1) dX12_room_35 rfl rfl <| ru_imul dX12_room_36 <| ?_
      refine ru_iaload h dX12_room_37 ?_
      intro v5 h
      rcases ab_iff h with ⟨hc, h⟩ | ⟨hc, h⟩
      · cases h
      refine ru_idiv dX12_room_38 hc ?_
      refine ru_istore dX12_room_39 (by decide) <| ru_aload_n (i := 0) dX12_room_41 rfl rfl <| ru_iload_n (i := 3) dX12_room_42 rfl rfl <| ru_iconst dX12_room_43 kc_i_1 <| ?_
      obtain ⟨_, hrc, h⟩ := Option.bind_eq_some_iff.mp h
      obtain ⟨q6, hq6, h⟩ := Option.bind_eq_some_iff.mp h
      refine ru_callV (tm_X12_freeOf hl0 (by omega) hq6) dX12_room_44 rfl pm_X12_270 mf_X12_freeOf (ab_rcv_of hrc rfl) rfl rfl (Nat.le_of_ble_eq_true rfl) ?_
      refine ru_aload_n (i := 0) dX12_room_47 rfl rfl <| ?_
      refine ru_getR h dX12_room_48 lk_X12_20 ?_
      intro v7 h
      refine ru_iconst dX12_room_51 kc_i_3 <| ru_iload_n (i := 1) dX12_room_52 rfl rfl <| ru_imul dX12_room_53 <| ru_iconst dX12_room_54 kc_i_1 <| ru_iadd dX12_room_55 <| ?_
      refine ru_iaload h dX12_room_56 ?_
      intro v8 h
      rcases ab_iff h with ⟨hc, h⟩ | ⟨hc, h⟩
      · cases h
      refine ru_idiv dX12_room_57 hc ?_
      refine ru_istore dX12_room_58 (by decide) <| ru_iload_n (i := 2) dX12_room_60 rfl rfl <| ru_iload dX12_room_61 rfl <| ru_iload dX12_room_63 rfl <| ?_
      refine ru_icmp_ge (tgt := 73) dX12_room_65 (by decide) (fun hc => ?_) (fun hc => ?_)
      · rw [if_pos hc] at h
        refine ru_iload dX12_room_73 rfl <| ?_
        exact ru_pick [0, 1, 3] rfl (tbb_X12_room_75 hl0 hd _ ih _ _ _ _ _ _ _ h)
      · rw [if_neg hc] at h
        refine ru_iload dX12_room_68 rfl <| ru_goto (tgt := 75) dX12_room_70 (by decide) <| ?_
        exact ru_pick [0, 1, 3] rfl (tbb_X12_room_75 hl0 hd _ ih _ _ _ _ _ _ _ h)
theorem te_X12_room {l : Launch} {g : ab_G} (hl0 : l.stackTraces = false) {d2 : Nat} (hd : 5 ≤ d2 + 1)   (l0 : Nat) (l1 : Int32) (m0 : ab_Mm) (z : (Int32 × ab_Mm)) (h : dd_X12_room  l0 l1 m0 = some z) : ab_W l g cX12_room RX12 6 (some .int) [] false (d2 + 1) (.inl (some (.int z.1))) z.2 0 [(0, .ref l0), (1, .int l1)] [] m0 := by
  unfold dd_X12_room at h
  refine ru_aload_n (i := 0) dX12_room_0 rfl rfl <| ru_iload_n (i := 1) dX12_room_1 rfl rfl <| ?_
  obtain ⟨_, hrc, h⟩ := Option.bind_eq_some_iff.mp h
  obtain ⟨q1, hq1, h⟩ := Option.bind_eq_some_iff.mp h
  refine ru_callV (tm_X12_noType hl0 (by omega) hq1) dX12_room_2 rfl pm_X12_295 mf_X12_noType (ab_rcv_of hrc rfl) rfl rfl (Nat.le_of_ble_eq_true rfl) ?_
  refine ru_if_eq (tgt := 10) dX12_room_5 (by decide) (fun hc => ?_) (fun hc => ?_)
  · rw [if_pos hc] at h
    refine ru_iconst dX12_room_10 kc_i_0 <| ru_istore_n (i := 2) dX12_room_11 rfl (by decide) <| ru_iconst dX12_room_12 kc_i_0 <| ru_istore_n (i := 3) dX12_room_13 rfl (by decide) <| ?_
    exact ru_pick [0, 1, 2, 3] rfl (tbb_X12_room_14 hl0 hd   _ _ _ _ _ _ _ h)
  · rw [if_neg hc] at h
    refine ru_iconst dX12_room_8 kc_i_0 <| ?_
    cases h
    exact ru_ret (v := some (.int _)) ⟨_, rfl, rfl, dX12_room_9⟩
theorem tm_X12_room {l : Launch} {g : ab_G} (hl0 : l.stackTraces = false) {d : Nat} (hd : 5 ≤ d) {l0 : Nat} {l1 : Int32} {m : ab_Mm} {z : (Int32 × ab_Mm)} (h : dd_X12_room l0 l1 m = some z) : ab_Met l g yX12_room cX12_room 6 (some .int) [] d [.ref l0, .int l1] m (.inl (some (.int z.1))) z.2 := by
  obtain ⟨d2, rfl⟩ : ∃ d2, d = d2 + 1 := ⟨d - 1, by omega⟩
  exact ab_of hl0 (by decide +kernel) (Nat.le_of_ble_eq_true rfl) (fun q => by cases q) rfl (te_X12_room hl0 hd _ _ _ _ h)
theorem tbb_X12_runningOnes_26 {l : Launch} {g : ab_G} (hl0 : l.stackTraces = false) {d2 : Nat} (hd : 3 ≤ d2 + 1) (r4 : Nat → Int32 → Int32 → ab_Mm → Option (Int32 × ab_Mm)) (hr4 : ∀ (l0 : Nat) (l1 : Int32) (l2 : Int32) (m : ab_Mm) (z : (Int32 × ab_Mm)), r4 l0 l1 l2 m = some z → ab_W l g cX12_runningOnes RX12 3 (some .int) [] false (d2 + 1) (.inl (some (.int z.1))) z.2 4 [(0, .ref l0), (1, .int l1), (2, .int l2)] [] m) (l0 : Nat) (l2 : Int32) (s0 : Int32) (s1 : Int32) (m0 : ab_Mm) (z : (Int32 × ab_Mm)) (h : bb_X12_runningOnes_26 r4 l0 l2 s0 s1 m0 = some z) : ab_W l g cX12_runningOnes RX12 3 (some .int) [] false (d2 + 1) (.inl (some (.int z.1))) z.2 26 [(0, .ref l0), (2, .int l2)] [.int s1, .int s0] m0 := by
  unfold bb_X12_runningOnes_26 at h
  refine ru_ior dX12_runningOnes_26 <| ru_istore_n (i := 1) dX12_runningOnes_27 rfl (by decide) <| ru_iinc dX12_runningOnes_28 (by decide) rfl (ab_inc kc_i_1) <| ru_goto (tgt := 4) dX12_runningOnes_31 (by decide) <| ?_
  exact ru_pick [0, 1, 2] rfl (hr4 _ _ _ _ _ h)
theorem tbb_X12_runningOnes_4 {l : Launch} {g : ab_G} (hl0 : l.stackTraces = false) {d2 : Nat} (hd : 3 ≤ d2 + 1)   : ∀ (n : Nat) (l0 : Nat) (l1 : Int32) (l2 : Int32) (m0 : ab_Mm) (z : (Int32 × ab_Mm)), bb_X12_runningOnes_4  n l0 l1 l2 m0 = some z → ab_W l g cX12_runningOnes RX12 3 (some .int) [] false (d2 + 1) (.inl (some (.int z.1))) z.2 4 [(0, .ref l0), (1, .int l1), (2, .int l2)] [] m0 := by
  intro n
  induction n with
  | zero => intro l0 l1 l2 m0 z h; cases h
  | succ n ih =>
    intro l0 l1 l2 m0 z h
    rw [bb_X12_runningOnes_4] at h
    refine ru_iload_n (i := 2) dX12_runningOnes_4 rfl rfl <| ru_bipush dX12_runningOnes_5 kc_b_12 <| ?_
    refine ru_icmp_ge (tgt := 34) dX12_runningOnes_7 (by decide) (fun hc => ?_) (fun hc => ?_)
    · rw [if_pos hc] at h
      refine ru_iload_n (i := 1) dX12_runningOnes_34 rfl rfl <| ?_
      cases h
      exact ru_ret (v := some (.int _)) ⟨_, rfl, rfl, dX12_runningOnes_35⟩
    · rw [if_neg hc] at h
      refine ru_iload_n (i := 1) dX12_runningOnes_10 rfl rfl <| ru_aload_n (i := 0) dX12_runningOnes_11 rfl rfl <| ru_iload_n (i := 2) dX12_runningOnes_12 rfl rfl <| ?_
      obtain ⟨_, hrc, h⟩ := Option.bind_eq_some_iff.mp h
      obtain ⟨q1, hq1, h⟩ := Option.bind_eq_some_iff.mp h
      refine ru_callV (tm_X12_runs hl0 (by omega) hq1) dX12_runningOnes_13 rfl pm_X12_264 mf_X12_runs (ab_rcv_of hrc rfl) rfl rfl (Nat.le_of_ble_eq_true rfl) ?_
      refine ru_if_eq (tgt := 25) dX12_runningOnes_16 (by decide) (fun hc => ?_) (fun hc => ?_)
      · rw [if_pos hc] at h
        refine ru_iconst dX12_runningOnes_25 kc_i_0 <| ?_
        exact ru_pick [0, 2] rfl (tbb_X12_runningOnes_26 hl0 hd _ ih _ _ _ _ _ _ h)
      · rw [if_neg hc] at h
        refine ru_iconst dX12_runningOnes_19 kc_i_1 <| ru_iload_n (i := 2) dX12_runningOnes_20 rfl rfl <| ru_ishl dX12_runningOnes_21 <| ru_goto (tgt := 26) dX12_runningOnes_22 (by decide) <| ?_
        exact ru_pick [0, 2] rfl (tbb_X12_runningOnes_26 hl0 hd _ ih _ _ _ _ _ _ h)
theorem te_X12_runningOnes {l : Launch} {g : ab_G} (hl0 : l.stackTraces = false) {d2 : Nat} (hd : 3 ≤ d2 + 1)   (l0 : Nat) (m0 : ab_Mm) (z : (Int32 × ab_Mm)) (h : dd_X12_runningOnes  l0 m0 = some z) : ab_W l g cX12_runningOnes RX12 3 (some .int) [] false (d2 + 1) (.inl (some (.int z.1))) z.2 0 [(0, .ref l0)] [] m0 := by
  unfold dd_X12_runningOnes at h
  refine ru_iconst dX12_runningOnes_0 kc_i_0 <| ru_istore_n (i := 1) dX12_runningOnes_1 rfl (by decide) <| ru_iconst dX12_runningOnes_2 kc_i_0 <| ru_istore_n (i := 2) dX12_runningOnes_3 rfl (by decide) <| ?_
  exact ru_pick [0, 1, 2] rfl (tbb_X12_runningOnes_4 hl0 hd   _ _ _ _ _ _ h)
theorem tm_X12_runningOnes {l : Launch} {g : ab_G} (hl0 : l.stackTraces = false) {d : Nat} (hd : 3 ≤ d) {l0 : Nat} {m : ab_Mm} {z : (Int32 × ab_Mm)} (h : dd_X12_runningOnes l0 m = some z) : ab_Met l g yX12_runningOnes cX12_runningOnes 3 (some .int) [] d [.ref l0] m (.inl (some (.int z.1))) z.2 := by
  obtain ⟨d2, rfl⟩ : ∃ d2, d = d2 + 1 := ⟨d - 1, by omega⟩
  exact ab_of hl0 (by decide +kernel) (Nat.le_of_ble_eq_true rfl) (fun q => by cases q) rfl (te_X12_runningOnes hl0 hd _ _ _ h)
theorem te_X12_running {l : Launch} {g : ab_G} (hl0 : l.stackTraces = false) {d2 : Nat} (hd : 4 ≤ d2 + 1)   (l0 : Nat) (m0 : ab_Mm) (z : (Int32 × ab_Mm)) (h : dd_X12_running  l0 m0 = some z) : ab_W l g cX12_running RX12 1 (some .int) [] false (d2 + 1) (.inl (some (.int z.1))) z.2 0 [(0, .ref l0)] [] m0 := by
  unfold dd_X12_running at h
  refine ru_aload_n (i := 0) dX12_running_0 rfl rfl <| ru_iconst dX12_running_1 kc_i_0 <| ?_
  refine ru_putI h dX12_running_2 lk_X12_83 ?_
  intro m1 h
  refine ru_aload_n (i := 0) dX12_running_5 rfl rfl <| ?_
  obtain ⟨_, hrc, h⟩ := Option.bind_eq_some_iff.mp h
  obtain ⟨q2, hq2, h⟩ := Option.bind_eq_some_iff.mp h
  refine ru_callV (tm_X12_runningOnes hl0 (by omega) hq2) dX12_running_6 rfl pm_X12_301 mf_X12_runningOnes (ab_rcv_of hrc rfl) rfl rfl (Nat.le_of_ble_eq_true rfl) ?_
  cases h
  exact ru_ret (v := some (.int _)) ⟨_, rfl, rfl, dX12_running_9⟩
theorem tm_X12_running {l : Launch} {g : ab_G} (hl0 : l.stackTraces = false) {d : Nat} (hd : 4 ≤ d) {l0 : Nat} {m : ab_Mm} {z : (Int32 × ab_Mm)} (h : dd_X12_running l0 m = some z) : ab_Met l g yX12_running cX12_running 1 (some .int) [] d [.ref l0] m (.inl (some (.int z.1))) z.2 := by
  obtain ⟨d2, rfl⟩ : ∃ d2, d = d2 + 1 := ⟨d - 1, by omega⟩
  exact ab_of hl0 (by decide +kernel) (Nat.le_of_ble_eq_true rfl) (fun q => by cases q) rfl (te_X12_running hl0 hd _ _ _ h)
theorem tbb_X12_typeOf_18 {l : Launch} {g : ab_G} (hl0 : l.stackTraces = false) {d2 : Nat} (hd : 4 ≤ d2 + 1)   (s0 : Int32) (m0 : ab_Mm) (z : (Int32 × ab_Mm)) (h : bb_X12_typeOf_18  s0 m0 = some z) : ab_W l g cX12_typeOf RX12 2 (some .int) [] false (d2 + 1) (.inl (some (.int z.1))) z.2 18 [] [.int s0] m0 := by
  unfold bb_X12_typeOf_18 at h
  cases h
  exact ru_ret (v := some (.int _)) ⟨_, rfl, rfl, dX12_typeOf_18⟩
theorem te_X12_typeOf {l : Launch} {g : ab_G} (hl0 : l.stackTraces = false) {d2 : Nat} (hd : 4 ≤ d2 + 1)   (l0 : Nat) (l1 : Int32) (m0 : ab_Mm) (z : (Int32 × ab_Mm)) (h : dd_X12_typeOf  l0 l1 m0 = some z) : ab_W l g cX12_typeOf RX12 2 (some .int) [] false (d2 + 1) (.inl (some (.int z.1))) z.2 0 [(0, .ref l0), (1, .int l1)] [] m0 := by
  unfold dd_X12_typeOf at h
  refine ru_aload_n (i := 0) dX12_typeOf_0 rfl rfl <| ru_iload_n (i := 1) dX12_typeOf_1 rfl rfl <| ?_
  obtain ⟨_, hrc, h⟩ := Option.bind_eq_some_iff.mp h
  obtain ⟨q1, hq1, h⟩ := Option.bind_eq_some_iff.mp h
  refine ru_callV (tm_X12_noInstance hl0 (by omega) hq1) dX12_typeOf_2 rfl pm_X12_304 mf_X12_noInstance (ab_rcv_of hrc rfl) rfl rfl (Nat.le_of_ble_eq_true rfl) ?_
  refine ru_if_eq (tgt := 12) dX12_typeOf_5 (by decide) (fun hc => ?_) (fun hc => ?_)
  · rw [if_pos hc] at h
    refine ru_aload_n (i := 0) dX12_typeOf_12 rfl rfl <| ru_iload_n (i := 1) dX12_typeOf_13 rfl rfl <| ru_iconst dX12_typeOf_14 kc_i_1 <| ?_
    obtain ⟨_, hrc, h⟩ := Option.bind_eq_some_iff.mp h
    obtain ⟨q2, hq2, h⟩ := Option.bind_eq_some_iff.mp h
    refine ru_callV (tm_X12_its hl0 (by omega) hq2) dX12_typeOf_15 rfl pm_X12_242 mf_X12_its (ab_rcv_of hrc rfl) rfl rfl (Nat.le_of_ble_eq_true rfl) ?_
    exact ru_pick [] rfl (tbb_X12_typeOf_18 hl0 hd   _ _ _ h)
  · rw [if_neg hc] at h
    refine ru_iconst dX12_typeOf_8 kc_i_0 <| ru_goto (tgt := 18) dX12_typeOf_9 (by decide) <| ?_
    exact ru_pick [] rfl (tbb_X12_typeOf_18 hl0 hd   _ _ _ h)
theorem tm_X12_typeOf {l : Launch} {g : ab_G} (hl0 : l.stackTraces = false) {d : Nat} (hd : 4 ≤ d) {l0 : Nat} {l1 : Int32} {m : ab_Mm} {z : (Int32 × ab_Mm)} (h : dd_X12_typeOf l0 l1 m = some z) : ab_Met l g yX12_typeOf cX12_typeOf 2 (some .int) [] d [.ref l0, .int l1] m (.inl (some (.int z.1))) z.2 := by
  obtain ⟨d2, rfl⟩ : ∃ d2, d = d2 + 1 := ⟨d - 1, by omega⟩
  exact ab_of hl0 (by decide +kernel) (Nat.le_of_ble_eq_true rfl) (fun q => by cases q) rfl (te_X12_typeOf hl0 hd _ _ _ _ h)
theorem tbb_X12_tenantOf_18 {l : Launch} {g : ab_G} (hl0 : l.stackTraces = false) {d2 : Nat} (hd : 4 ≤ d2 + 1)   (s0 : Int32) (m0 : ab_Mm) (z : (Int32 × ab_Mm)) (h : bb_X12_tenantOf_18  s0 m0 = some z) : ab_W l g cX12_tenantOf RX12 2 (some .int) [] false (d2 + 1) (.inl (some (.int z.1))) z.2 18 [] [.int s0] m0 := by
  unfold bb_X12_tenantOf_18 at h
  cases h
  exact ru_ret (v := some (.int _)) ⟨_, rfl, rfl, dX12_tenantOf_18⟩
theorem te_X12_tenantOf {l : Launch} {g : ab_G} (hl0 : l.stackTraces = false) {d2 : Nat} (hd : 4 ≤ d2 + 1)   (l0 : Nat) (l1 : Int32) (m0 : ab_Mm) (z : (Int32 × ab_Mm)) (h : dd_X12_tenantOf  l0 l1 m0 = some z) : ab_W l g cX12_tenantOf RX12 2 (some .int) [] false (d2 + 1) (.inl (some (.int z.1))) z.2 0 [(0, .ref l0), (1, .int l1)] [] m0 := by
  unfold dd_X12_tenantOf at h
  refine ru_aload_n (i := 0) dX12_tenantOf_0 rfl rfl <| ru_iload_n (i := 1) dX12_tenantOf_1 rfl rfl <| ?_
  obtain ⟨_, hrc, h⟩ := Option.bind_eq_some_iff.mp h
  obtain ⟨q1, hq1, h⟩ := Option.bind_eq_some_iff.mp h
  refine ru_callV (tm_X12_noInstance hl0 (by omega) hq1) dX12_tenantOf_2 rfl pm_X12_304 mf_X12_noInstance (ab_rcv_of hrc rfl) rfl rfl (Nat.le_of_ble_eq_true rfl) ?_
  refine ru_if_eq (tgt := 12) dX12_tenantOf_5 (by decide) (fun hc => ?_) (fun hc => ?_)
  · rw [if_pos hc] at h
    refine ru_aload_n (i := 0) dX12_tenantOf_12 rfl rfl <| ru_iload_n (i := 1) dX12_tenantOf_13 rfl rfl <| ru_iconst dX12_tenantOf_14 kc_i_0 <| ?_
    obtain ⟨_, hrc, h⟩ := Option.bind_eq_some_iff.mp h
    obtain ⟨q2, hq2, h⟩ := Option.bind_eq_some_iff.mp h
    refine ru_callV (tm_X12_its hl0 (by omega) hq2) dX12_tenantOf_15 rfl pm_X12_242 mf_X12_its (ab_rcv_of hrc rfl) rfl rfl (Nat.le_of_ble_eq_true rfl) ?_
    exact ru_pick [] rfl (tbb_X12_tenantOf_18 hl0 hd   _ _ _ h)
  · rw [if_neg hc] at h
    refine ru_iconst dX12_tenantOf_8 kc_i_0 <| ru_goto (tgt := 18) dX12_tenantOf_9 (by decide) <| ?_
    exact ru_pick [] rfl (tbb_X12_tenantOf_18 hl0 hd   _ _ _ h)
theorem tm_X12_tenantOf {l : Launch} {g : ab_G} (hl0 : l.stackTraces = false) {d : Nat} (hd : 4 ≤ d) {l0 : Nat} {l1 : Int32} {m : ab_Mm} {z : (Int32 × ab_Mm)} (h : dd_X12_tenantOf l0 l1 m = some z) : ab_Met l g yX12_tenantOf cX12_tenantOf 2 (some .int) [] d [.ref l0, .int l1] m (.inl (some (.int z.1))) z.2 := by
  obtain ⟨d2, rfl⟩ : ∃ d2, d = d2 + 1 := ⟨d - 1, by omega⟩
  exact ab_of hl0 (by decide +kernel) (Nat.le_of_ble_eq_true rfl) (fun q => by cases q) rfl (te_X12_tenantOf hl0 hd _ _ _ _ h)
theorem tbb_X12_hostOf_18 {l : Launch} {g : ab_G} (hl0 : l.stackTraces = false) {d2 : Nat} (hd : 4 ≤ d2 + 1)   (s0 : Int32) (m0 : ab_Mm) (z : (Int32 × ab_Mm)) (h : bb_X12_hostOf_18  s0 m0 = some z) : ab_W l g cX12_hostOf RX12 2 (some .int) [] false (d2 + 1) (.inl (some (.int z.1))) z.2 18 [] [.int s0] m0 := by
  unfold bb_X12_hostOf_18 at h
  cases h
  exact ru_ret (v := some (.int _)) ⟨_, rfl, rfl, dX12_hostOf_18⟩
theorem te_X12_hostOf {l : Launch} {g : ab_G} (hl0 : l.stackTraces = false) {d2 : Nat} (hd : 4 ≤ d2 + 1)   (l0 : Nat) (l1 : Int32) (m0 : ab_Mm) (z : (Int32 × ab_Mm)) (h : dd_X12_hostOf  l0 l1 m0 = some z) : ab_W l g cX12_hostOf RX12 2 (some .int) [] false (d2 + 1) (.inl (some (.int z.1))) z.2 0 [(0, .ref l0), (1, .int l1)] [] m0 := by
  unfold dd_X12_hostOf at h
  refine ru_aload_n (i := 0) dX12_hostOf_0 rfl rfl <| ru_iload_n (i := 1) dX12_hostOf_1 rfl rfl <| ?_
  obtain ⟨_, hrc, h⟩ := Option.bind_eq_some_iff.mp h
  obtain ⟨q1, hq1, h⟩ := Option.bind_eq_some_iff.mp h
  refine ru_callV (tm_X12_noInstance hl0 (by omega) hq1) dX12_hostOf_2 rfl pm_X12_304 mf_X12_noInstance (ab_rcv_of hrc rfl) rfl rfl (Nat.le_of_ble_eq_true rfl) ?_
  refine ru_if_eq (tgt := 12) dX12_hostOf_5 (by decide) (fun hc => ?_) (fun hc => ?_)
  · rw [if_pos hc] at h
    refine ru_aload_n (i := 0) dX12_hostOf_12 rfl rfl <| ru_iload_n (i := 1) dX12_hostOf_13 rfl rfl <| ru_iconst dX12_hostOf_14 kc_i_2 <| ?_
    obtain ⟨_, hrc, h⟩ := Option.bind_eq_some_iff.mp h
    obtain ⟨q2, hq2, h⟩ := Option.bind_eq_some_iff.mp h
    refine ru_callV (tm_X12_its hl0 (by omega) hq2) dX12_hostOf_15 rfl pm_X12_242 mf_X12_its (ab_rcv_of hrc rfl) rfl rfl (Nat.le_of_ble_eq_true rfl) ?_
    exact ru_pick [] rfl (tbb_X12_hostOf_18 hl0 hd   _ _ _ h)
  · rw [if_neg hc] at h
    refine ru_iconst dX12_hostOf_8 kc_i_0 <| ru_goto (tgt := 18) dX12_hostOf_9 (by decide) <| ?_
    exact ru_pick [] rfl (tbb_X12_hostOf_18 hl0 hd   _ _ _ h)
theorem tm_X12_hostOf {l : Launch} {g : ab_G} (hl0 : l.stackTraces = false) {d : Nat} (hd : 4 ≤ d) {l0 : Nat} {l1 : Int32} {m : ab_Mm} {z : (Int32 × ab_Mm)} (h : dd_X12_hostOf l0 l1 m = some z) : ab_Met l g yX12_hostOf cX12_hostOf 2 (some .int) [] d [.ref l0, .int l1] m (.inl (some (.int z.1))) z.2 := by
  obtain ⟨d2, rfl⟩ : ∃ d2, d = d2 + 1 := ⟨d - 1, by omega⟩
  exact ab_of hl0 (by decide +kernel) (Nat.le_of_ble_eq_true rfl) (fun q => by cases q) rfl (te_X12_hostOf hl0 hd _ _ _ _ h)
theorem tbb_X12_bidOf_18 {l : Launch} {g : ab_G} (hl0 : l.stackTraces = false) {d2 : Nat} (hd : 4 ≤ d2 + 1)   (s0 : Int32) (m0 : ab_Mm) (z : (Int32 × ab_Mm)) (h : bb_X12_bidOf_18  s0 m0 = some z) : ab_W l g cX12_bidOf RX12 2 (some .int) [] false (d2 + 1) (.inl (some (.int z.1))) z.2 18 [] [.int s0] m0 := by
  unfold bb_X12_bidOf_18 at h
  cases h
  exact ru_ret (v := some (.int _)) ⟨_, rfl, rfl, dX12_bidOf_18⟩
theorem te_X12_bidOf {l : Launch} {g : ab_G} (hl0 : l.stackTraces = false) {d2 : Nat} (hd : 4 ≤ d2 + 1)   (l0 : Nat) (l1 : Int32) (m0 : ab_Mm) (z : (Int32 × ab_Mm)) (h : dd_X12_bidOf  l0 l1 m0 = some z) : ab_W l g cX12_bidOf RX12 2 (some .int) [] false (d2 + 1) (.inl (some (.int z.1))) z.2 0 [(0, .ref l0), (1, .int l1)] [] m0 := by
  unfold dd_X12_bidOf at h
  refine ru_aload_n (i := 0) dX12_bidOf_0 rfl rfl <| ru_iload_n (i := 1) dX12_bidOf_1 rfl rfl <| ?_
  obtain ⟨_, hrc, h⟩ := Option.bind_eq_some_iff.mp h
  obtain ⟨q1, hq1, h⟩ := Option.bind_eq_some_iff.mp h
  refine ru_callV (tm_X12_noInstance hl0 (by omega) hq1) dX12_bidOf_2 rfl pm_X12_304 mf_X12_noInstance (ab_rcv_of hrc rfl) rfl rfl (Nat.le_of_ble_eq_true rfl) ?_
  refine ru_if_eq (tgt := 12) dX12_bidOf_5 (by decide) (fun hc => ?_) (fun hc => ?_)
  · rw [if_pos hc] at h
    refine ru_aload_n (i := 0) dX12_bidOf_12 rfl rfl <| ru_iload_n (i := 1) dX12_bidOf_13 rfl rfl <| ru_iconst dX12_bidOf_14 kc_i_3 <| ?_
    obtain ⟨_, hrc, h⟩ := Option.bind_eq_some_iff.mp h
    obtain ⟨q2, hq2, h⟩ := Option.bind_eq_some_iff.mp h
    refine ru_callV (tm_X12_its hl0 (by omega) hq2) dX12_bidOf_15 rfl pm_X12_242 mf_X12_its (ab_rcv_of hrc rfl) rfl rfl (Nat.le_of_ble_eq_true rfl) ?_
    exact ru_pick [] rfl (tbb_X12_bidOf_18 hl0 hd   _ _ _ h)
  · rw [if_neg hc] at h
    refine ru_iconst dX12_bidOf_8 kc_i_0 <| ru_goto (tgt := 18) dX12_bidOf_9 (by decide) <| ?_
    exact ru_pick [] rfl (tbb_X12_bidOf_18 hl0 hd   _ _ _ h)
theorem tm_X12_bidOf {l : Launch} {g : ab_G} (hl0 : l.stackTraces = false) {d : Nat} (hd : 4 ≤ d) {l0 : Nat} {l1 : Int32} {m : ab_Mm} {z : (Int32 × ab_Mm)} (h : dd_X12_bidOf l0 l1 m = some z) : ab_Met l g yX12_bidOf cX12_bidOf 2 (some .int) [] d [.ref l0, .int l1] m (.inl (some (.int z.1))) z.2 := by
  obtain ⟨d2, rfl⟩ : ∃ d2, d = d2 + 1 := ⟨d - 1, by omega⟩
  exact ab_of hl0 (by decide +kernel) (Nat.le_of_ble_eq_true rfl) (fun q => by cases q) rfl (te_X12_bidOf hl0 hd _ _ _ _ h)
theorem tbb_X12_noticeOf_18 {l : Launch} {g : ab_G} (hl0 : l.stackTraces = false) {d2 : Nat} (hd : 4 ≤ d2 + 1)   (s0 : Int32) (m0 : ab_Mm) (z : (Int32 × ab_Mm)) (h : bb_X12_noticeOf_18  s0 m0 = some z) : ab_W l g cX12_noticeOf RX12 2 (some .int) [] false (d2 + 1) (.inl (some (.int z.1))) z.2 18 [] [.int s0] m0 := by
  unfold bb_X12_noticeOf_18 at h
  cases h
  exact ru_ret (v := some (.int _)) ⟨_, rfl, rfl, dX12_noticeOf_18⟩
theorem te_X12_noticeOf {l : Launch} {g : ab_G} (hl0 : l.stackTraces = false) {d2 : Nat} (hd : 4 ≤ d2 + 1)   (l0 : Nat) (l1 : Int32) (m0 : ab_Mm) (z : (Int32 × ab_Mm)) (h : dd_X12_noticeOf  l0 l1 m0 = some z) : ab_W l g cX12_noticeOf RX12 2 (some .int) [] false (d2 + 1) (.inl (some (.int z.1))) z.2 0 [(0, .ref l0), (1, .int l1)] [] m0 := by
  unfold dd_X12_noticeOf at h
  refine ru_aload_n (i := 0) dX12_noticeOf_0 rfl rfl <| ru_iload_n (i := 1) dX12_noticeOf_1 rfl rfl <| ?_
  obtain ⟨_, hrc, h⟩ := Option.bind_eq_some_iff.mp h
  obtain ⟨q1, hq1, h⟩ := Option.bind_eq_some_iff.mp h
  refine ru_callV (tm_X12_noInstance hl0 (by omega) hq1) dX12_noticeOf_2 rfl pm_X12_304 mf_X12_noInstance (ab_rcv_of hrc rfl) rfl rfl (Nat.le_of_ble_eq_true rfl) ?_
  refine ru_if_eq (tgt := 12) dX12_noticeOf_5 (by decide) (fun hc => ?_) (fun hc => ?_)
  · rw [if_pos hc] at h
    refine ru_aload_n (i := 0) dX12_noticeOf_12 rfl rfl <| ru_iload_n (i := 1) dX12_noticeOf_13 rfl rfl <| ru_iconst dX12_noticeOf_14 kc_i_4 <| ?_
    obtain ⟨_, hrc, h⟩ := Option.bind_eq_some_iff.mp h
    obtain ⟨q2, hq2, h⟩ := Option.bind_eq_some_iff.mp h
    refine ru_callV (tm_X12_its hl0 (by omega) hq2) dX12_noticeOf_15 rfl pm_X12_242 mf_X12_its (ab_rcv_of hrc rfl) rfl rfl (Nat.le_of_ble_eq_true rfl) ?_
    exact ru_pick [] rfl (tbb_X12_noticeOf_18 hl0 hd   _ _ _ h)
  · rw [if_neg hc] at h
    refine ru_iconst dX12_noticeOf_8 kc_i_0 <| ru_goto (tgt := 18) dX12_noticeOf_9 (by decide) <| ?_
    exact ru_pick [] rfl (tbb_X12_noticeOf_18 hl0 hd   _ _ _ h)
theorem tm_X12_noticeOf {l : Launch} {g : ab_G} (hl0 : l.stackTraces = false) {d : Nat} (hd : 4 ≤ d) {l0 : Nat} {l1 : Int32} {m : ab_Mm} {z : (Int32 × ab_Mm)} (h : dd_X12_noticeOf l0 l1 m = some z) : ab_Met l g yX12_noticeOf cX12_noticeOf 2 (some .int) [] d [.ref l0, .int l1] m (.inl (some (.int z.1))) z.2 := by
  obtain ⟨d2, rfl⟩ : ∃ d2, d = d2 + 1 := ⟨d - 1, by omega⟩
  exact ab_of hl0 (by decide +kernel) (Nat.le_of_ble_eq_true rfl) (fun q => by cases q) rfl (te_X12_noticeOf hl0 hd _ _ _ _ h)
theorem te_X12_waiting {l : Launch} {g : ab_G} (hl0 : l.stackTraces = false) {d2 : Nat} (hd : 1 ≤ d2 + 1)   (l0 : Nat) (m0 : ab_Mm) (z : (Int32 × ab_Mm)) (h : dd_X12_waiting  l0 m0 = some z) : ab_W l g cX12_waiting RX12 1 (some .int) [] false (d2 + 1) (.inl (some (.int z.1))) z.2 0 [(0, .ref l0)] [] m0 := by
  unfold dd_X12_waiting at h
  refine ru_aload_n (i := 0) dX12_waiting_0 rfl rfl <| ru_iconst dX12_waiting_1 kc_i_0 <| ?_
  refine ru_putI h dX12_waiting_2 lk_X12_83 ?_
  intro m1 h
  refine ru_aload_n (i := 0) dX12_waiting_5 rfl rfl <| ?_
  refine ru_getR h dX12_waiting_6 lk_X12_7 ?_
  intro v2 h
  refine ru_iconst dX12_waiting_9 kc_i_1 <| ?_
  refine ru_laload h dX12_waiting_10 ?_
  intro v3 h
  refine ru_l2i dX12_waiting_11 <| ?_
  cases h
  exact ru_ret (v := some (.int _)) ⟨_, rfl, rfl, dX12_waiting_12⟩
theorem tm_X12_waiting {l : Launch} {g : ab_G} (hl0 : l.stackTraces = false) {d : Nat} (hd : 1 ≤ d) {l0 : Nat} {m : ab_Mm} {z : (Int32 × ab_Mm)} (h : dd_X12_waiting l0 m = some z) : ab_Met l g yX12_waiting cX12_waiting 1 (some .int) [] d [.ref l0] m (.inl (some (.int z.1))) z.2 := by
  obtain ⟨d2, rfl⟩ : ∃ d2, d = d2 + 1 := ⟨d - 1, by omega⟩
  exact ab_of hl0 (by decide +kernel) (Nat.le_of_ble_eq_true rfl) (fun q => by cases q) rfl (te_X12_waiting hl0 hd _ _ _ h)
theorem te_X12_bidAt {l : Launch} {g : ab_G} (hl0 : l.stackTraces = false) {d2 : Nat} (hd : 1 ≤ d2 + 1)   (l0 : Nat) (l1 : Int32) (m0 : ab_Mm) (z : (Int32 × ab_Mm)) (h : dd_X12_bidAt  l0 l1 m0 = some z) : ab_W l g cX12_bidAt RX12 2 (some .int) [] false (d2 + 1) (.inl (some (.int z.1))) z.2 0 [(0, .ref l0), (1, .int l1)] [] m0 := by
  unfold dd_X12_bidAt at h
  refine ru_aload_n (i := 0) dX12_bidAt_0 rfl rfl <| ?_
  refine ru_getR h dX12_bidAt_1 lk_X12_7 ?_
  intro v1 h
  refine ru_bipush dX12_bidAt_4 kc_b_86 <| ru_iconst dX12_bidAt_6 kc_i_3 <| ru_iload_n (i := 1) dX12_bidAt_7 rfl rfl <| ru_imul dX12_bidAt_8 <| ru_iadd dX12_bidAt_9 <| ru_iconst dX12_bidAt_10 kc_i_2 <| ru_iadd dX12_bidAt_11 <| ?_
  refine ru_laload h dX12_bidAt_12 ?_
  intro v2 h
  refine ru_l2i dX12_bidAt_13 <| ?_
  cases h
  exact ru_ret (v := some (.int _)) ⟨_, rfl, rfl, dX12_bidAt_14⟩
theorem tm_X12_bidAt {l : Launch} {g : ab_G} (hl0 : l.stackTraces = false) {d : Nat} (hd : 1 ≤ d) {l0 : Nat} {l1 : Int32} {m : ab_Mm} {z : (Int32 × ab_Mm)} (h : dd_X12_bidAt l0 l1 m = some z) : ab_Met l g yX12_bidAt cX12_bidAt 2 (some .int) [] d [.ref l0, .int l1] m (.inl (some (.int z.1))) z.2 := by
  obtain ⟨d2, rfl⟩ : ∃ d2, d = d2 + 1 := ⟨d - 1, by omega⟩
  exact ab_of hl0 (by decide +kernel) (Nat.le_of_ble_eq_true rfl) (fun q => by cases q) rfl (te_X12_bidAt hl0 hd _ _ _ _ h)
theorem tbb_X12_requestAt_72 {l : Launch} {g : ab_G} (hl0 : l.stackTraces = false) {d2 : Nat} (hd : 2 ≤ d2 + 1) (r2 : Nat → Int32 → Int32 → ab_Mm → Option (Int32 × ab_Mm)) (r19 : Nat → Int32 → Int32 → Int32 → Int32 → ab_Mm → Option (Int32 × ab_Mm)) (hr2 : ∀ (l0 : Nat) (l1 : Int32) (l2 : Int32) (m : ab_Mm) (z : (Int32 × ab_Mm)), r2 l0 l1 l2 m = some z → ab_W l g cX12_requestAt RX12 5 (some .int) [] false (d2 + 1) (.inl (some (.int z.1))) z.2 2 [(0, .ref l0), (1, .int l1), (2, .int l2)] [] m) (hr19 : ∀ (l0 : Nat) (l1 : Int32) (l2 : Int32) (l3 : Int32) (l4 : Int32) (m : ab_Mm) (z : (Int32 × ab_Mm)), r19 l0 l1 l2 l3 l4 m = some z → ab_W l g cX12_requestAt RX12 5 (some .int) [] false (d2 + 1) (.inl (some (.int z.1))) z.2 19 [(0, .ref l0), (1, .int l1), (2, .int l2), (3, .int l3), (4, .int l4)] [] m) (l0 : Nat) (l1 : Int32) (l2 : Int32) (l4 : Int32) (s0 : Int32) (s1 : Int32) (m0 : ab_Mm) (z : (Int32 × ab_Mm)) (h : bb_X12_requestAt_72 r2 r19 l0 l1 l2 l4 s0 s1 m0 = some z) : ab_W l g cX12_requestAt RX12 5 (some .int) [] false (d2 + 1) (.inl (some (.int z.1))) z.2 72 [(0, .ref l0), (1, .int l1), (2, .int l2), (4, .int l4)] [.int s1, .int s0] m0 := by
  unfold bb_X12_requestAt_72 at h
  refine ru_iadd dX12_requestAt_72 <| ru_istore_n (i := 3) dX12_requestAt_73 rfl (by decide) <| ru_iinc dX12_requestAt_74 (by decide) rfl (ab_inc kc_i_1) <| ru_goto (tgt := 19) dX12_requestAt_77 (by decide) <| ?_
  exact ru_pick [0, 1, 2, 3, 4] rfl (hr19 _ _ _ _ _ _ _ h)
theorem tbb_X12_requestAt_71 {l : Launch} {g : ab_G} (hl0 : l.stackTraces = false) {d2 : Nat} (hd : 2 ≤ d2 + 1) (r2 : Nat → Int32 → Int32 → ab_Mm → Option (Int32 × ab_Mm)) (r19 : Nat → Int32 → Int32 → Int32 → Int32 → ab_Mm → Option (Int32 × ab_Mm)) (hr2 : ∀ (l0 : Nat) (l1 : Int32) (l2 : Int32) (m : ab_Mm) (z : (Int32 × ab_Mm)), r2 l0 l1 l2 m = some z → ab_W l g cX12_requestAt RX12 5 (some .int) [] false (d2 + 1) (.inl (some (.int z.1))) z.2 2 [(0, .ref l0), (1, .int l1), (2, .int l2)] [] m) (hr19 : ∀ (l0 : Nat) (l1 : Int32) (l2 : Int32) (l3 : Int32) (l4 : Int32) (m : ab_Mm) (z : (Int32 × ab_Mm)), r19 l0 l1 l2 l3 l4 m = some z → ab_W l g cX12_requestAt RX12 5 (some .int) [] false (d2 + 1) (.inl (some (.int z.1))) z.2 19 [(0, .ref l0), (1, .int l1), (2, .int l2), (3, .int l3), (4, .int l4)] [] m) (l0 : Nat) (l1 : Int32) (l2 : Int32) (l4 : Int32) (s0 : Int32) (m0 : ab_Mm) (z : (Int32 × ab_Mm)) (h : bb_X12_requestAt_71 r2 r19 l0 l1 l2 l4 s0 m0 = some z) : ab_W l g cX12_requestAt RX12 5 (some .int) [] false (d2 + 1) (.inl (some (.int z.1))) z.2 71 [(0, .ref l0), (1, .int l1), (2, .int l2), (4, .int l4)] [.int s0] m0 := by
  unfold bb_X12_requestAt_71 at h
  refine ru_iconst dX12_requestAt_71 kc_i_0 <| ?_
  exact ru_pick [0, 1, 2, 4] rfl (tbb_X12_requestAt_72 hl0 hd _ _ hr2 hr19 _ _ _ _ _ _ _ _ h)
theorem tbb_X12_requestAt_67 {l : Launch} {g : ab_G} (hl0 : l.stackTraces = false) {d2 : Nat} (hd : 2 ≤ d2 + 1) (r2 : Nat → Int32 → Int32 → ab_Mm → Option (Int32 × ab_Mm)) (r19 : Nat → Int32 → Int32 → Int32 → Int32 → ab_Mm → Option (Int32 × ab_Mm)) (hr2 : ∀ (l0 : Nat) (l1 : Int32) (l2 : Int32) (m : ab_Mm) (z : (Int32 × ab_Mm)), r2 l0 l1 l2 m = some z → ab_W l g cX12_requestAt RX12 5 (some .int) [] false (d2 + 1) (.inl (some (.int z.1))) z.2 2 [(0, .ref l0), (1, .int l1), (2, .int l2)] [] m) (hr19 : ∀ (l0 : Nat) (l1 : Int32) (l2 : Int32) (l3 : Int32) (l4 : Int32) (m : ab_Mm) (z : (Int32 × ab_Mm)), r19 l0 l1 l2 l3 l4 m = some z → ab_W l g cX12_requestAt RX12 5 (some .int) [] false (d2 + 1) (.inl (some (.int z.1))) z.2 19 [(0, .ref l0), (1, .int l1), (2, .int l2), (3, .int l3), (4, .int l4)] [] m) (l0 : Nat) (l1 : Int32) (l2 : Int32) (l4 : Int32) (s0 : Int32) (m0 : ab_Mm) (z : (Int32 × ab_Mm)) (h : bb_X12_requestAt_67 r2 r19 l0 l1 l2 l4 s0 m0 = some z) : ab_W l g cX12_requestAt RX12 5 (some .int) [] false (d2 + 1) (.inl (some (.int z.1))) z.2 67 [(0, .ref l0), (1, .int l1), (2, .int l2), (4, .int l4)] [.int s0] m0 := by
  unfold bb_X12_requestAt_67 at h
  refine ru_iconst dX12_requestAt_67 kc_i_1 <| ru_goto (tgt := 72) dX12_requestAt_68 (by decide) <| ?_
  exact ru_pick [0, 1, 2, 4] rfl (tbb_X12_requestAt_72 hl0 hd _ _ hr2 hr19 _ _ _ _ _ _ _ _ h)
theorem tbb_X12_requestAt_19 {l : Launch} {g : ab_G} (hl0 : l.stackTraces = false) {d2 : Nat} (hd : 2 ≤ d2 + 1) (r2 : Nat → Int32 → Int32 → ab_Mm → Option (Int32 × ab_Mm)) (hr2 : ∀ (l0 : Nat) (l1 : Int32) (l2 : Int32) (m : ab_Mm) (z : (Int32 × ab_Mm)), r2 l0 l1 l2 m = some z → ab_W l g cX12_requestAt RX12 5 (some .int) [] false (d2 + 1) (.inl (some (.int z.1))) z.2 2 [(0, .ref l0), (1, .int l1), (2, .int l2)] [] m) : ∀ (n : Nat) (l0 : Nat) (l1 : Int32) (l2 : Int32) (l3 : Int32) (l4 : Int32) (m0 : ab_Mm) (z : (Int32 × ab_Mm)), bb_X12_requestAt_19 r2 n l0 l1 l2 l3 l4 m0 = some z → ab_W l g cX12_requestAt RX12 5 (some .int) [] false (d2 + 1) (.inl (some (.int z.1))) z.2 19 [(0, .ref l0), (1, .int l1), (2, .int l2), (3, .int l3), (4, .int l4)] [] m0 := by
  intro n
  induction n with
  | zero => intro l0 l1 l2 l3 l4 m0 z h; cases h
  | succ n ih =>
    intro l0 l1 l2 l3 l4 m0 z h
    rw [bb_X12_requestAt_19] at h
    refine ru_iload dX12_requestAt_19 rfl <| ru_i2l dX12_requestAt_21 <| ru_aload_n (i := 0) dX12_requestAt_22 rfl rfl <| ?_
    refine ru_getR h dX12_requestAt_23 lk_X12_7 ?_
    intro v1 h
    refine ru_iconst dX12_requestAt_26 kc_i_1 <| ?_
    refine ru_laload h dX12_requestAt_27 ?_
    intro v2 h
    refine ru_lcmp dX12_requestAt_28 <| ?_
    refine ru_if_ge (tgt := 80) dX12_requestAt_29 (by decide) (fun hc => ?_) (fun hc => ?_)
    · rw [if_pos hc] at h
      refine ru_iload_n (i := 3) dX12_requestAt_80 rfl rfl <| ru_iload_n (i := 1) dX12_requestAt_81 rfl rfl <| ?_
      refine ru_icmp_ne (tgt := 87) dX12_requestAt_82 (by decide) (fun hc => ?_) (fun hc => ?_)
      · rw [if_neg hc] at h
        refine ru_iinc dX12_requestAt_87 (by decide) rfl (ab_inc kc_i_1) <| ru_goto (tgt := 2) dX12_requestAt_90 (by decide) <| ?_
        exact ru_pick [0, 1, 2] rfl (hr2 _ _ _ _ _ h)
      · rw [if_pos hc] at h
        refine ru_iload_n (i := 2) dX12_requestAt_85 rfl rfl <| ?_
        cases h
        exact ru_ret (v := some (.int _)) ⟨_, rfl, rfl, dX12_requestAt_86⟩
    · rw [if_neg hc] at h
      refine ru_iload_n (i := 3) dX12_requestAt_32 rfl rfl <| ru_aload_n (i := 0) dX12_requestAt_33 rfl rfl <| ru_iload dX12_requestAt_34 rfl <| ?_
      obtain ⟨_, hrc, h⟩ := Option.bind_eq_some_iff.mp h
      obtain ⟨q3, hq3, h⟩ := Option.bind_eq_some_iff.mp h
      refine ru_callV (tm_X12_bidAt hl0 (by omega) hq3) dX12_requestAt_36 rfl pm_X12_307 mf_X12_bidAt (ab_rcv_of hrc rfl) rfl rfl (Nat.le_of_ble_eq_true rfl) ?_
      refine ru_aload_n (i := 0) dX12_requestAt_39 rfl rfl <| ru_iload_n (i := 2) dX12_requestAt_40 rfl rfl <| ?_
      obtain ⟨_, hrc, h⟩ := Option.bind_eq_some_iff.mp h
      obtain ⟨q4, hq4, h⟩ := Option.bind_eq_some_iff.mp h
      refine ru_callV (tm_X12_bidAt hl0 (by omega) hq4) dX12_requestAt_41 rfl pm_X12_307 mf_X12_bidAt (ab_rcv_of hrc rfl) rfl rfl (Nat.le_of_ble_eq_true rfl) ?_
      refine ru_icmp_gt (tgt := 67) dX12_requestAt_44 (by decide) (fun hc => ?_) (fun hc => ?_)
      · rw [if_pos hc] at h
        exact ru_pick [0, 1, 2, 4] rfl (tbb_X12_requestAt_67 hl0 hd _ _ hr2 ih _ _ _ _ _ _ _ h)
      · rw [if_neg hc] at h
        refine ru_aload_n (i := 0) dX12_requestAt_47 rfl rfl <| ru_iload dX12_requestAt_48 rfl <| ?_
        obtain ⟨_, hrc, h⟩ := Option.bind_eq_some_iff.mp h
        obtain ⟨q5, hq5, h⟩ := Option.bind_eq_some_iff.mp h
        refine ru_callV (tm_X12_bidAt hl0 (by omega) hq5) dX12_requestAt_50 rfl pm_X12_307 mf_X12_bidAt (ab_rcv_of hrc rfl) rfl rfl (Nat.le_of_ble_eq_true rfl) ?_
        refine ru_aload_n (i := 0) dX12_requestAt_53 rfl rfl <| ru_iload_n (i := 2) dX12_requestAt_54 rfl rfl <| ?_
        obtain ⟨_, hrc, h⟩ := Option.bind_eq_some_iff.mp h
        obtain ⟨q6, hq6, h⟩ := Option.bind_eq_some_iff.mp h
        refine ru_callV (tm_X12_bidAt hl0 (by omega) hq6) dX12_requestAt_55 rfl pm_X12_307 mf_X12_bidAt (ab_rcv_of hrc rfl) rfl rfl (Nat.le_of_ble_eq_true rfl) ?_
        refine ru_icmp_ne (tgt := 71) dX12_requestAt_58 (by decide) (fun hc => ?_) (fun hc => ?_)
        · rw [if_neg hc] at h
          exact ru_pick [0, 1, 2, 4] rfl (tbb_X12_requestAt_71 hl0 hd _ _ hr2 ih _ _ _ _ _ _ _ h)
        · rw [if_pos hc] at h
          refine ru_iload dX12_requestAt_61 rfl <| ru_iload_n (i := 2) dX12_requestAt_63 rfl rfl <| ?_
          refine ru_icmp_ge (tgt := 71) dX12_requestAt_64 (by decide) (fun hc => ?_) (fun hc => ?_)
          · rw [if_pos hc] at h
            exact ru_pick [0, 1, 2, 4] rfl (tbb_X12_requestAt_71 hl0 hd _ _ hr2 ih _ _ _ _ _ _ _ h)
          · rw [if_neg hc] at h
            exact ru_pick [0, 1, 2, 4] rfl (tbb_X12_requestAt_67 hl0 hd _ _ hr2 ih _ _ _ _ _ _ _ h)
theorem tbb_X12_requestAt_2 {l : Launch} {g : ab_G} (hl0 : l.stackTraces = false) {d2 : Nat} (hd : 2 ≤ d2 + 1)   : ∀ (n : Nat) (l0 : Nat) (l1 : Int32) (l2 : Int32) (m0 : ab_Mm) (z : (Int32 × ab_Mm)), bb_X12_requestAt_2  n l0 l1 l2 m0 = some z → ab_W l g cX12_requestAt RX12 5 (some .int) [] false (d2 + 1) (.inl (some (.int z.1))) z.2 2 [(0, .ref l0), (1, .int l1), (2, .int l2)] [] m0 := by
  intro n
  induction n with
  | zero => intro l0 l1 l2 m0 z h; cases h
  | succ n ih =>
    intro l0 l1 l2 m0 z h
    rw [bb_X12_requestAt_2] at h
    refine ru_iload_n (i := 2) dX12_requestAt_2 rfl rfl <| ru_i2l dX12_requestAt_3 <| ru_aload_n (i := 0) dX12_requestAt_4 rfl rfl <| ?_
    refine ru_getR h dX12_requestAt_5 lk_X12_7 ?_
    intro v1 h
    refine ru_iconst dX12_requestAt_8 kc_i_1 <| ?_
    refine ru_laload h dX12_requestAt_9 ?_
    intro v2 h
    refine ru_lcmp dX12_requestAt_10 <| ?_
    refine ru_if_ge (tgt := 93) dX12_requestAt_11 (by decide) (fun hc => ?_) (fun hc => ?_)
    · rw [if_pos hc] at h
      refine ru_iconst dX12_requestAt_93 kc_i_m1 <| ?_
      cases h
      exact ru_ret (v := some (.int _)) ⟨_, rfl, rfl, dX12_requestAt_94⟩
    · rw [if_neg hc] at h
      refine ru_iconst dX12_requestAt_14 kc_i_0 <| ru_istore_n (i := 3) dX12_requestAt_15 rfl (by decide) <| ru_iconst dX12_requestAt_16 kc_i_0 <| ru_istore dX12_requestAt_17 (by decide) <| ?_
      exact ru_pick [0, 1, 2, 3, 4] rfl (tbb_X12_requestAt_19 hl0 hd _ ih _ _ _ _ _ _ _ _ h)
theorem te_X12_requestAt {l : Launch} {g : ab_G} (hl0 : l.stackTraces = false) {d2 : Nat} (hd : 2 ≤ d2 + 1)   (l0 : Nat) (l1 : Int32) (m0 : ab_Mm) (z : (Int32 × ab_Mm)) (h : dd_X12_requestAt  l0 l1 m0 = some z) : ab_W l g cX12_requestAt RX12 5 (some .int) [] false (d2 + 1) (.inl (some (.int z.1))) z.2 0 [(0, .ref l0), (1, .int l1)] [] m0 := by
  unfold dd_X12_requestAt at h
  refine ru_iconst dX12_requestAt_0 kc_i_0 <| ru_istore_n (i := 2) dX12_requestAt_1 rfl (by decide) <| ?_
  exact ru_pick [0, 1, 2] rfl (tbb_X12_requestAt_2 hl0 hd   _ _ _ _ _ _ h)
theorem tm_X12_requestAt {l : Launch} {g : ab_G} (hl0 : l.stackTraces = false) {d : Nat} (hd : 2 ≤ d) {l0 : Nat} {l1 : Int32} {m : ab_Mm} {z : (Int32 × ab_Mm)} (h : dd_X12_requestAt l0 l1 m = some z) : ab_Met l g yX12_requestAt cX12_requestAt 5 (some .int) [] d [.ref l0, .int l1] m (.inl (some (.int z.1))) z.2 := by
  obtain ⟨d2, rfl⟩ : ∃ d2, d = d2 + 1 := ⟨d - 1, by omega⟩
  exact ab_of hl0 (by decide +kernel) (Nat.le_of_ble_eq_true rfl) (fun q => by cases q) rfl (te_X12_requestAt hl0 hd _ _ _ _ h)
theorem tbb_X12_waitingBid_25 {l : Launch} {g : ab_G} (hl0 : l.stackTraces = false) {d2 : Nat} (hd : 3 ≤ d2 + 1)   (s0 : Int32) (m0 : ab_Mm) (z : (Int32 × ab_Mm)) (h : bb_X12_waitingBid_25  s0 m0 = some z) : ab_W l g cX12_waitingBid RX12 3 (some .int) [] false (d2 + 1) (.inl (some (.int z.1))) z.2 25 [] [.int s0] m0 := by
  unfold bb_X12_waitingBid_25 at h
  cases h
  exact ru_ret (v := some (.int _)) ⟨_, rfl, rfl, dX12_waitingBid_25⟩
theorem te_X12_waitingBid {l : Launch} {g : ab_G} (hl0 : l.stackTraces = false) {d2 : Nat} (hd : 3 ≤ d2 + 1)   (l0 : Nat) (l1 : Int32) (m0 : ab_Mm) (z : (Int32 × ab_Mm)) (h : dd_X12_waitingBid  l0 l1 m0 = some z) : ab_W l g cX12_waitingBid RX12 3 (some .int) [] false (d2 + 1) (.inl (some (.int z.1))) z.2 0 [(0, .ref l0), (1, .int l1)] [] m0 := by
  unfold dd_X12_waitingBid at h
  refine ru_aload_n (i := 0) dX12_waitingBid_0 rfl rfl <| ru_iconst dX12_waitingBid_1 kc_i_0 <| ?_
  refine ru_putI h dX12_waitingBid_2 lk_X12_83 ?_
  intro m1 h
  refine ru_aload_n (i := 0) dX12_waitingBid_5 rfl rfl <| ru_iload_n (i := 1) dX12_waitingBid_6 rfl rfl <| ?_
  obtain ⟨_, hrc, h⟩ := Option.bind_eq_some_iff.mp h
  obtain ⟨q2, hq2, h⟩ := Option.bind_eq_some_iff.mp h
  refine ru_callV (tm_X12_requestAt hl0 (by omega) hq2) dX12_waitingBid_7 rfl pm_X12_310 mf_X12_requestAt (ab_rcv_of hrc rfl) rfl rfl (Nat.le_of_ble_eq_true rfl) ?_
  refine ru_istore_n (i := 2) dX12_waitingBid_10 rfl (by decide) <| ru_iload_n (i := 2) dX12_waitingBid_11 rfl rfl <| ru_iconst dX12_waitingBid_12 kc_i_m1 <| ?_
  refine ru_icmp_ne (tgt := 20) dX12_waitingBid_13 (by decide) (fun hc => ?_) (fun hc => ?_)
  · rw [if_neg hc] at h
    refine ru_aload_n (i := 0) dX12_waitingBid_20 rfl rfl <| ru_iload_n (i := 2) dX12_waitingBid_21 rfl rfl <| ?_
    obtain ⟨_, hrc, h⟩ := Option.bind_eq_some_iff.mp h
    obtain ⟨q3, hq3, h⟩ := Option.bind_eq_some_iff.mp h
    refine ru_callV (tm_X12_bidAt hl0 (by omega) hq3) dX12_waitingBid_22 rfl pm_X12_307 mf_X12_bidAt (ab_rcv_of hrc rfl) rfl rfl (Nat.le_of_ble_eq_true rfl) ?_
    exact ru_pick [] rfl (tbb_X12_waitingBid_25 hl0 hd   _ _ _ h)
  · rw [if_pos hc] at h
    refine ru_iconst dX12_waitingBid_16 kc_i_m1 <| ru_goto (tgt := 25) dX12_waitingBid_17 (by decide) <| ?_
    exact ru_pick [] rfl (tbb_X12_waitingBid_25 hl0 hd   _ _ _ h)
theorem tm_X12_waitingBid {l : Launch} {g : ab_G} (hl0 : l.stackTraces = false) {d : Nat} (hd : 3 ≤ d) {l0 : Nat} {l1 : Int32} {m : ab_Mm} {z : (Int32 × ab_Mm)} (h : dd_X12_waitingBid l0 l1 m = some z) : ab_Met l g yX12_waitingBid cX12_waitingBid 3 (some .int) [] d [.ref l0, .int l1] m (.inl (some (.int z.1))) z.2 := by
  obtain ⟨d2, rfl⟩ : ∃ d2, d = d2 + 1 := ⟨d - 1, by omega⟩
  exact ab_of hl0 (by decide +kernel) (Nat.le_of_ble_eq_true rfl) (fun q => by cases q) rfl (te_X12_waitingBid hl0 hd _ _ _ _ h)
theorem tbb_X12_dropsRequest_17 {l : Launch} {g : ab_G} (hl0 : l.stackTraces = false) {d2 : Nat} (hd : 1 ≤ d2 + 1)   : ∀ (n : Nat) (l0 : Nat) (l2 : Int32) (m0 : ab_Mm) (z : (Unit × ab_Mm)), bb_X12_dropsRequest_17  n l0 l2 m0 = some z → ab_W l g cX12_dropsRequest RX12 3 none [] false (d2 + 1) (.inl none) z.2 17 [(0, .ref l0), (2, .int l2)] [] m0 := by
  intro n
  induction n with
  | zero => intro l0 l2 m0 z h; cases h
  | succ n ih =>
    intro l0 l2 m0 z h
    rw [bb_X12_dropsRequest_17] at h
    refine ru_iload_n (i := 2) dX12_dropsRequest_17 rfl rfl <| ru_i2l dX12_dropsRequest_18 <| ru_ldc2_w dX12_dropsRequest_19 pk_X12_313 <| ru_ldc2_w dX12_dropsRequest_22 pk_X12_315 <| ru_aload_n (i := 0) dX12_dropsRequest_25 rfl rfl <| ?_
    refine ru_getR h dX12_dropsRequest_26 lk_X12_7 ?_
    intro v1 h
    refine ru_iconst dX12_dropsRequest_29 kc_i_1 <| ?_
    refine ru_laload h dX12_dropsRequest_30 ?_
    intro v2 h
    refine ru_lmul dX12_dropsRequest_31 <| ru_ladd dX12_dropsRequest_32 <| ru_lcmp dX12_dropsRequest_33 <| ?_
    refine ru_if_ge (tgt := 57) dX12_dropsRequest_34 (by decide) (fun hc => ?_) (fun hc => ?_)
    · rw [if_pos hc] at h
      cases h
      exact ru_ret (v := none) ⟨rfl, dX12_dropsRequest_57⟩
    · rw [if_neg hc] at h
      refine ru_aload_n (i := 0) dX12_dropsRequest_37 rfl rfl <| ?_
      refine ru_getR h dX12_dropsRequest_38 lk_X12_7 ?_
      intro v3 h
      refine ru_iload_n (i := 2) dX12_dropsRequest_41 rfl rfl <| ru_aload_n (i := 0) dX12_dropsRequest_42 rfl rfl <| ?_
      refine ru_getR h dX12_dropsRequest_43 lk_X12_7 ?_
      intro v4 h
      refine ru_iload_n (i := 2) dX12_dropsRequest_46 rfl rfl <| ru_iconst dX12_dropsRequest_47 kc_i_3 <| ru_iadd dX12_dropsRequest_48 <| ?_
      refine ru_laload h dX12_dropsRequest_49 ?_
      intro v5 h
      refine ru_lastore h dX12_dropsRequest_50 ?_
      intro m6 h
      refine ru_iinc dX12_dropsRequest_51 (by decide) rfl (ab_inc kc_i_1) <| ru_goto (tgt := 17) dX12_dropsRequest_54 (by decide) <| ?_
      exact ru_pick [0, 2] rfl (ih _ _ _ _ h)
theorem te_X12_dropsRequest {l : Launch} {g : ab_G} (hl0 : l.stackTraces = false) {d2 : Nat} (hd : 1 ≤ d2 + 1)   (l0 : Nat) (l1 : Int32) (m0 : ab_Mm) (z : (Unit × ab_Mm)) (h : dd_X12_dropsRequest  l0 l1 m0 = some z) : ab_W l g cX12_dropsRequest RX12 3 none [] false (d2 + 1) (.inl none) z.2 0 [(0, .ref l0), (1, .int l1)] [] m0 := by
  unfold dd_X12_dropsRequest at h
  refine ru_aload_n (i := 0) dX12_dropsRequest_0 rfl rfl <| ?_
  refine ru_getR h dX12_dropsRequest_1 lk_X12_7 ?_
  intro v1 h
  refine ru_iconst dX12_dropsRequest_4 kc_i_1 <| ru_dup2 dX12_dropsRequest_5 rfl rfl <| ?_
  refine ru_laload h dX12_dropsRequest_6 ?_
  intro v2 h
  refine ru_lconst dX12_dropsRequest_7 (v := 1) rfl <| ru_lsub dX12_dropsRequest_8 <| ?_
  refine ru_lastore h dX12_dropsRequest_9 ?_
  intro m3 h
  refine ru_bipush dX12_dropsRequest_10 kc_b_86 <| ru_iconst dX12_dropsRequest_12 kc_i_3 <| ru_iload_n (i := 1) dX12_dropsRequest_13 rfl rfl <| ru_imul dX12_dropsRequest_14 <| ru_iadd dX12_dropsRequest_15 <| ru_istore_n (i := 2) dX12_dropsRequest_16 rfl (by decide) <| ?_
  exact ru_pick [0, 2] rfl (tbb_X12_dropsRequest_17 hl0 hd   _ _ _ _ _ h)
theorem tm_X12_dropsRequest {l : Launch} {g : ab_G} (hl0 : l.stackTraces = false) {d : Nat} (hd : 1 ≤ d) {l0 : Nat} {l1 : Int32} {m : ab_Mm} {z : (Unit × ab_Mm)} (h : dd_X12_dropsRequest l0 l1 m = some z) : ab_Met l g yX12_dropsRequest cX12_dropsRequest 3 none [] d [.ref l0, .int l1] m (.inl none) z.2 := by
  obtain ⟨d2, rfl⟩ : ∃ d2, d = d2 + 1 := ⟨d - 1, by omega⟩
  exact ab_of hl0 (by decide +kernel) (Nat.le_of_ble_eq_true rfl) (fun q => by cases q) rfl (te_X12_dropsRequest hl0 hd _ _ _ _ h)
theorem tbb_X12_regulars_60 {l : Launch} {g : ab_G} (hl0 : l.stackTraces = false) {d2 : Nat} (hd : 3 ≤ d2 + 1) (r5 : Nat → Int32 → Int32 → Int32 → Int32 → ab_Mm → Option (Int32 × ab_Mm)) (hr5 : ∀ (l0 : Nat) (l1 : Int32) (l2 : Int32) (l3 : Int32) (l4 : Int32) (m : ab_Mm) (z : (Int32 × ab_Mm)), r5 l0 l1 l2 l3 l4 m = some z → ab_W l g cX12_regulars RX12 5 (some .int) [] false (d2 + 1) (.inl (some (.int z.1))) z.2 5 [(0, .ref l0), (1, .int l1), (2, .int l2), (3, .int l3), (4, .int l4)] [] m) (l0 : Nat) (l1 : Int32) (l2 : Int32) (l4 : Int32) (s0 : Int32) (s1 : Int32) (m0 : ab_Mm) (z : (Int32 × ab_Mm)) (h : bb_X12_regulars_60 r5 l0 l1 l2 l4 s0 s1 m0 = some z) : ab_W l g cX12_regulars RX12 5 (some .int) [] false (d2 + 1) (.inl (some (.int z.1))) z.2 60 [(0, .ref l0), (1, .int l1), (2, .int l2), (4, .int l4)] [.int s1, .int s0] m0 := by
  unfold bb_X12_regulars_60 at h
  refine ru_iadd dX12_regulars_60 <| ru_istore_n (i := 3) dX12_regulars_61 rfl (by decide) <| ru_iinc dX12_regulars_62 (by decide) rfl (ab_inc kc_i_1) <| ru_goto (tgt := 5) dX12_regulars_65 (by decide) <| ?_
  exact ru_pick [0, 1, 2, 3, 4] rfl (hr5 _ _ _ _ _ _ _ h)
