/-! ===== the methods keep to these functions (by program) ===== -/
theorem te_L_parse {l : Launch} {g : ab_G} (hl0 : l.stackTraces = false) {d2 : Nat} (hd : 41 ≤ d2 + 1)   (l0 : Nat) (l1 : Int32) (l2 : Nat) (m0 : ab_Mm) (z : (Int32 × ab_Mm)) (h : dd_L_parse  l0 l1 l2 m0 = some z) : ab_W l g cL_parse RL 4 (some .int) [(0, 9, 12, 13)] false (d2 + 1) (.inl (some (.int z.1))) z.2 0 [(0, .ref l0), (1, .int l1), (2, .ref l2)] [] m0 := by
  unfold dd_L_parse at h
  refine ru_aload_n (i := 2) dL_parse_0 rfl rfl <| ru_iconst dL_parse_1 kc_i_0 <| ru_aload_n (i := 0) dL_parse_2 rfl rfl <| ru_iload_n (i := 1) dL_parse_3 rfl rfl <| ?_
  obtain ⟨_, hrc, h⟩ := Option.bind_eq_some_iff.mp h
  obtain ⟨q1, hq1, h⟩ := Option.bind_eq_some_iff.mp h
  obtain ⟨v1, m1⟩ := q1
  cases v1 with
  | inl v1 =>
    dsimp only at h
    refine ru_callV (tm_X11_parse hl0 (by omega) hq1) dL_parse_4 rfl pm_L_7 mf_X11_parse (ab_rcv_of hrc rfl) rfl rfl (Nat.le_of_ble_eq_true rfl) ?_
    refine ru_i2l dL_parse_7 <| ?_
    refine ru_lastore h dL_parse_8 ?_
    intro m2 h
    refine ru_goto (tgt := 15) dL_parse_9 (by decide) <| ?_
    refine ru_iconst dL_parse_15 kc_i_0 <| ?_
    cases h
    exact ru_ret (v := some (.int _)) ⟨_, rfl, rfl, dL_parse_16⟩
  | inr v1 =>
    dsimp only at h
    rcases ab_iff h with ⟨hc, h⟩ | ⟨hc, h⟩
    · subst hc
      refine ru_callVH (i := 3) (len := 1) (tm_X11_parse hl0 (by omega) hq1) dL_parse_4 rfl pm_L_7 mf_X11_parse (ab_rcv_of hrc rfl) rfl rfl (Nat.le_of_ble_eq_true rfl) [] _ (0, 9, 12, 13) rfl (fun z hz => by cases hz) (by decide) (by decide) pc_L_13 (Or.inl ⟨rfl, 3, rfl, dL_parse_12⟩) (by decide) ?_
      refine ru_iconst dL_parse_13 kc_i_1 <| ?_
      cases h
      exact ru_ret (v := some (.int _)) ⟨_, rfl, rfl, dL_parse_14⟩
    cases h
theorem tm_L_parse {l : Launch} {g : ab_G} (hl0 : l.stackTraces = false) {d : Nat} (hd : 41 ≤ d) {l0 : Nat} {l1 : Int32} {l2 : Nat} {m : ab_Mm} {z : (Int32 × ab_Mm)} (h : dd_L_parse l0 l1 l2 m = some z) : ab_Met l g yL_parse cL_parse 4 (some .int) [(0, 9, 12, 13)] d [.ref l0, .int l1, .ref l2] m (.inl (some (.int z.1))) z.2 := by
  obtain ⟨d2, rfl⟩ : ∃ d2, d = d2 + 1 := ⟨d - 1, by omega⟩
  exact ab_ofH hl0 (by decide +kernel) (Nat.le_of_ble_eq_true rfl) rfl (te_L_parse hl0 hd _ _ _ _ _ h)
theorem te_L_free {l : Launch} {g : ab_G} (hl0 : l.stackTraces = false) {d2 : Nat} (hd : 4 ≤ d2 + 1)   (l0 : Nat) (l1 : Int32) (l2 : Int32) (l3 : Nat) (m0 : ab_Mm) (z : (Int32 × ab_Mm)) (h : dd_L_free  l0 l1 l2 l3 m0 = some z) : ab_W l g cL_free RL 5 (some .int) [(0, 10, 13, 19)] false (d2 + 1) (.inl (some (.int z.1))) z.2 0 [(0, .ref l0), (1, .int l1), (2, .int l2), (3, .ref l3)] [] m0 := by
  unfold dd_L_free at h
  refine ru_aload_n (i := 3) dL_free_0 rfl rfl <| ru_iconst dL_free_1 kc_i_0 <| ru_aload_n (i := 0) dL_free_2 rfl rfl <| ru_iload_n (i := 1) dL_free_3 rfl rfl <| ru_iload_n (i := 2) dL_free_4 rfl rfl <| ?_
  obtain ⟨_, hrc, h⟩ := Option.bind_eq_some_iff.mp h
  obtain ⟨q1, hq1, h⟩ := Option.bind_eq_some_iff.mp h
  obtain ⟨v1, m1⟩ := q1
  cases v1 with
  | inl v1 =>
    dsimp only at h
    refine ru_callV (tm_X11_free hl0 (by omega) hq1) dL_free_5 rfl pm_L_15 mf_X11_free (ab_rcv_of hrc rfl) rfl rfl (Nat.le_of_ble_eq_true rfl) ?_
    refine ru_i2l dL_free_8 <| ?_
    refine ru_lastore h dL_free_9 ?_
    intro m2 h
    refine ru_goto (tgt := 17) dL_free_10 (by decide) <| ?_
    refine ru_iconst dL_free_17 kc_i_0 <| ?_
    cases h
    exact ru_ret (v := some (.int _)) ⟨_, rfl, rfl, dL_free_18⟩
  | inr v1 =>
    dsimp only at h
    rcases ab_iff h with ⟨hc, h⟩ | ⟨hc, h⟩
    · subst hc
      refine ru_callVH (i := 4) (len := 2) (tm_X11_free hl0 (by omega) hq1) dL_free_5 rfl pm_L_15 mf_X11_free (ab_rcv_of hrc rfl) rfl rfl (Nat.le_of_ble_eq_true rfl) [] _ (0, 10, 13, 19) rfl (fun z hz => by cases hz) (by decide) (by decide) pc_L_19 (Or.inr ⟨rfl, dL_free_13⟩) (by decide) ?_
      refine ru_iconst dL_free_15 kc_i_1 <| ?_
      cases h
      exact ru_ret (v := some (.int _)) ⟨_, rfl, rfl, dL_free_16⟩
    cases h
theorem tm_L_free {l : Launch} {g : ab_G} (hl0 : l.stackTraces = false) {d : Nat} (hd : 4 ≤ d) {l0 : Nat} {l1 : Int32} {l2 : Int32} {l3 : Nat} {m : ab_Mm} {z : (Int32 × ab_Mm)} (h : dd_L_free l0 l1 l2 l3 m = some z) : ab_Met l g yL_free cL_free 5 (some .int) [(0, 10, 13, 19)] d [.ref l0, .int l1, .int l2, .ref l3] m (.inl (some (.int z.1))) z.2 := by
  obtain ⟨d2, rfl⟩ : ∃ d2, d = d2 + 1 := ⟨d - 1, by omega⟩
  exact ab_ofH hl0 (by decide +kernel) (Nat.le_of_ble_eq_true rfl) rfl (te_L_free hl0 hd _ _ _ _ _ _ h)
theorem te_L_instancesOn {l : Launch} {g : ab_G} (hl0 : l.stackTraces = false) {d2 : Nat} (hd : 4 ≤ d2 + 1)   (l0 : Nat) (l1 : Int32) (l2 : Nat) (m0 : ab_Mm) (z : (Int32 × ab_Mm)) (h : dd_L_instancesOn  l0 l1 l2 m0 = some z) : ab_W l g cL_instancesOn RL 4 (some .int) [(0, 9, 12, 19)] false (d2 + 1) (.inl (some (.int z.1))) z.2 0 [(0, .ref l0), (1, .int l1), (2, .ref l2)] [] m0 := by
  unfold dd_L_instancesOn at h
  refine ru_aload_n (i := 2) dL_instancesOn_0 rfl rfl <| ru_iconst dL_instancesOn_1 kc_i_0 <| ru_aload_n (i := 0) dL_instancesOn_2 rfl rfl <| ru_iload_n (i := 1) dL_instancesOn_3 rfl rfl <| ?_
  obtain ⟨_, hrc, h⟩ := Option.bind_eq_some_iff.mp h
  obtain ⟨q1, hq1, h⟩ := Option.bind_eq_some_iff.mp h
  obtain ⟨v1, m1⟩ := q1
  cases v1 with
  | inl v1 =>
    dsimp only at h
    refine ru_callV (tm_X11_instancesOn hl0 (by omega) hq1) dL_instancesOn_4 rfl pm_L_21 mf_X11_instancesOn (ab_rcv_of hrc rfl) rfl rfl (Nat.le_of_ble_eq_true rfl) ?_
    refine ru_i2l dL_instancesOn_7 <| ?_
    refine ru_lastore h dL_instancesOn_8 ?_
    intro m2 h
    refine ru_goto (tgt := 15) dL_instancesOn_9 (by decide) <| ?_
    refine ru_iconst dL_instancesOn_15 kc_i_0 <| ?_
    cases h
    exact ru_ret (v := some (.int _)) ⟨_, rfl, rfl, dL_instancesOn_16⟩
  | inr v1 =>
    dsimp only at h
    rcases ab_iff h with ⟨hc, h⟩ | ⟨hc, h⟩
    · subst hc
      refine ru_callVH (i := 3) (len := 1) (tm_X11_instancesOn hl0 (by omega) hq1) dL_instancesOn_4 rfl pm_L_21 mf_X11_instancesOn (ab_rcv_of hrc rfl) rfl rfl (Nat.le_of_ble_eq_true rfl) [] _ (0, 9, 12, 19) rfl (fun z hz => by cases hz) (by decide) (by decide) pc_L_19 (Or.inl ⟨rfl, 3, rfl, dL_instancesOn_12⟩) (by decide) ?_
      refine ru_iconst dL_instancesOn_13 kc_i_1 <| ?_
      cases h
      exact ru_ret (v := some (.int _)) ⟨_, rfl, rfl, dL_instancesOn_14⟩
    cases h
theorem tm_L_instancesOn {l : Launch} {g : ab_G} (hl0 : l.stackTraces = false) {d : Nat} (hd : 4 ≤ d) {l0 : Nat} {l1 : Int32} {l2 : Nat} {m : ab_Mm} {z : (Int32 × ab_Mm)} (h : dd_L_instancesOn l0 l1 l2 m = some z) : ab_Met l g yL_instancesOn cL_instancesOn 4 (some .int) [(0, 9, 12, 19)] d [.ref l0, .int l1, .ref l2] m (.inl (some (.int z.1))) z.2 := by
  obtain ⟨d2, rfl⟩ : ∃ d2, d = d2 + 1 := ⟨d - 1, by omega⟩
  exact ab_ofH hl0 (by decide +kernel) (Nat.le_of_ble_eq_true rfl) rfl (te_L_instancesOn hl0 hd _ _ _ _ _ h)
theorem te_L_spotPrice {l : Launch} {g : ab_G} (hl0 : l.stackTraces = false) {d2 : Nat} (hd : 4 ≤ d2 + 1)   (l0 : Nat) (l1 : Int32) (l2 : Nat) (m0 : ab_Mm) (z : (Int32 × ab_Mm)) (h : dd_L_spotPrice  l0 l1 l2 m0 = some z) : ab_W l g cL_spotPrice RL 4 (some .int) [(0, 9, 12, 19)] false (d2 + 1) (.inl (some (.int z.1))) z.2 0 [(0, .ref l0), (1, .int l1), (2, .ref l2)] [] m0 := by
  unfold dd_L_spotPrice at h
  refine ru_aload_n (i := 2) dL_spotPrice_0 rfl rfl <| ru_iconst dL_spotPrice_1 kc_i_0 <| ru_aload_n (i := 0) dL_spotPrice_2 rfl rfl <| ru_iload_n (i := 1) dL_spotPrice_3 rfl rfl <| ?_
  obtain ⟨_, hrc, h⟩ := Option.bind_eq_some_iff.mp h
  obtain ⟨q1, hq1, h⟩ := Option.bind_eq_some_iff.mp h
  obtain ⟨v1, m1⟩ := q1
  cases v1 with
  | inl v1 =>
    dsimp only at h
    refine ru_callV (tm_X11_spotPrice hl0 (by omega) hq1) dL_spotPrice_4 rfl pm_L_24 mf_X11_spotPrice (ab_rcv_of hrc rfl) rfl rfl (Nat.le_of_ble_eq_true rfl) ?_
    refine ru_i2l dL_spotPrice_7 <| ?_
    refine ru_lastore h dL_spotPrice_8 ?_
    intro m2 h
    refine ru_goto (tgt := 15) dL_spotPrice_9 (by decide) <| ?_
    refine ru_iconst dL_spotPrice_15 kc_i_0 <| ?_
    cases h
    exact ru_ret (v := some (.int _)) ⟨_, rfl, rfl, dL_spotPrice_16⟩
  | inr v1 =>
    dsimp only at h
    rcases ab_iff h with ⟨hc, h⟩ | ⟨hc, h⟩
    · subst hc
      refine ru_callVH (i := 3) (len := 1) (tm_X11_spotPrice hl0 (by omega) hq1) dL_spotPrice_4 rfl pm_L_24 mf_X11_spotPrice (ab_rcv_of hrc rfl) rfl rfl (Nat.le_of_ble_eq_true rfl) [] _ (0, 9, 12, 19) rfl (fun z hz => by cases hz) (by decide) (by decide) pc_L_19 (Or.inl ⟨rfl, 3, rfl, dL_spotPrice_12⟩) (by decide) ?_
      refine ru_iconst dL_spotPrice_13 kc_i_1 <| ?_
      cases h
      exact ru_ret (v := some (.int _)) ⟨_, rfl, rfl, dL_spotPrice_14⟩
    cases h
theorem tm_L_spotPrice {l : Launch} {g : ab_G} (hl0 : l.stackTraces = false) {d : Nat} (hd : 4 ≤ d) {l0 : Nat} {l1 : Int32} {l2 : Nat} {m : ab_Mm} {z : (Int32 × ab_Mm)} (h : dd_L_spotPrice l0 l1 l2 m = some z) : ab_Met l g yL_spotPrice cL_spotPrice 4 (some .int) [(0, 9, 12, 19)] d [.ref l0, .int l1, .ref l2] m (.inl (some (.int z.1))) z.2 := by
  obtain ⟨d2, rfl⟩ : ∃ d2, d = d2 + 1 := ⟨d - 1, by omega⟩
  exact ab_ofH hl0 (by decide +kernel) (Nat.le_of_ble_eq_true rfl) rfl (te_L_spotPrice hl0 hd _ _ _ _ _ h)
theorem te_L_bestHost {l : Launch} {g : ab_G} (hl0 : l.stackTraces = false) {d2 : Nat} (hd : 6 ≤ d2 + 1)   (l0 : Nat) (l1 : Int32) (l2 : Nat) (m0 : ab_Mm) (z : (Int32 × ab_Mm)) (h : dd_L_bestHost  l0 l1 l2 m0 = some z) : ab_W l g cL_bestHost RL 4 (some .int) [(0, 9, 12, 19)] false (d2 + 1) (.inl (some (.int z.1))) z.2 0 [(0, .ref l0), (1, .int l1), (2, .ref l2)] [] m0 := by
  unfold dd_L_bestHost at h
  refine ru_aload_n (i := 2) dL_bestHost_0 rfl rfl <| ru_iconst dL_bestHost_1 kc_i_0 <| ru_aload_n (i := 0) dL_bestHost_2 rfl rfl <| ru_iload_n (i := 1) dL_bestHost_3 rfl rfl <| ?_
  obtain ⟨_, hrc, h⟩ := Option.bind_eq_some_iff.mp h
  obtain ⟨q1, hq1, h⟩ := Option.bind_eq_some_iff.mp h
  obtain ⟨v1, m1⟩ := q1
  cases v1 with
  | inl v1 =>
    dsimp only at h
    refine ru_callV (tm_X11_bestHost hl0 (by omega) hq1) dL_bestHost_4 rfl pm_L_27 mf_X11_bestHost (ab_rcv_of hrc rfl) rfl rfl (Nat.le_of_ble_eq_true rfl) ?_
    refine ru_i2l dL_bestHost_7 <| ?_
    refine ru_lastore h dL_bestHost_8 ?_
    intro m2 h
    refine ru_goto (tgt := 15) dL_bestHost_9 (by decide) <| ?_
    refine ru_iconst dL_bestHost_15 kc_i_0 <| ?_
    cases h
    exact ru_ret (v := some (.int _)) ⟨_, rfl, rfl, dL_bestHost_16⟩
  | inr v1 =>
    dsimp only at h
    rcases ab_iff h with ⟨hc, h⟩ | ⟨hc, h⟩
    · subst hc
      refine ru_callVH (i := 3) (len := 1) (tm_X11_bestHost hl0 (by omega) hq1) dL_bestHost_4 rfl pm_L_27 mf_X11_bestHost (ab_rcv_of hrc rfl) rfl rfl (Nat.le_of_ble_eq_true rfl) [] _ (0, 9, 12, 19) rfl (fun z hz => by cases hz) (by decide) (by decide) pc_L_19 (Or.inl ⟨rfl, 3, rfl, dL_bestHost_12⟩) (by decide) ?_
      refine ru_iconst dL_bestHost_13 kc_i_1 <| ?_
      cases h
      exact ru_ret (v := some (.int _)) ⟨_, rfl, rfl, dL_bestHost_14⟩
    cases h
theorem tm_L_bestHost {l : Launch} {g : ab_G} (hl0 : l.stackTraces = false) {d : Nat} (hd : 6 ≤ d) {l0 : Nat} {l1 : Int32} {l2 : Nat} {m : ab_Mm} {z : (Int32 × ab_Mm)} (h : dd_L_bestHost l0 l1 l2 m = some z) : ab_Met l g yL_bestHost cL_bestHost 4 (some .int) [(0, 9, 12, 19)] d [.ref l0, .int l1, .ref l2] m (.inl (some (.int z.1))) z.2 := by
  obtain ⟨d2, rfl⟩ : ∃ d2, d = d2 + 1 := ⟨d - 1, by omega⟩
  exact ab_ofH hl0 (by decide +kernel) (Nat.le_of_ble_eq_true rfl) rfl (te_L_bestHost hl0 hd _ _ _ _ _ h)
theorem te_L_room {l : Launch} {g : ab_G} (hl0 : l.stackTraces = false) {d2 : Nat} (hd : 5 ≤ d2 + 1)   (l0 : Nat) (l1 : Int32) (l2 : Nat) (m0 : ab_Mm) (z : (Int32 × ab_Mm)) (h : dd_L_room  l0 l1 l2 m0 = some z) : ab_W l g cL_room RL 4 (some .int) [(0, 9, 12, 19)] false (d2 + 1) (.inl (some (.int z.1))) z.2 0 [(0, .ref l0), (1, .int l1), (2, .ref l2)] [] m0 := by
  unfold dd_L_room at h
  refine ru_aload_n (i := 2) dL_room_0 rfl rfl <| ru_iconst dL_room_1 kc_i_0 <| ru_aload_n (i := 0) dL_room_2 rfl rfl <| ru_iload_n (i := 1) dL_room_3 rfl rfl <| ?_
  obtain ⟨_, hrc, h⟩ := Option.bind_eq_some_iff.mp h
  obtain ⟨q1, hq1, h⟩ := Option.bind_eq_some_iff.mp h
  obtain ⟨v1, m1⟩ := q1
  cases v1 with
  | inl v1 =>
    dsimp only at h
    refine ru_callV (tm_X11_room hl0 (by omega) hq1) dL_room_4 rfl pm_L_30 mf_X11_room (ab_rcv_of hrc rfl) rfl rfl (Nat.le_of_ble_eq_true rfl) ?_
    refine ru_i2l dL_room_7 <| ?_
    refine ru_lastore h dL_room_8 ?_
    intro m2 h
    refine ru_goto (tgt := 15) dL_room_9 (by decide) <| ?_
    refine ru_iconst dL_room_15 kc_i_0 <| ?_
    cases h
    exact ru_ret (v := some (.int _)) ⟨_, rfl, rfl, dL_room_16⟩
  | inr v1 =>
    dsimp only at h
    rcases ab_iff h with ⟨hc, h⟩ | ⟨hc, h⟩
    · subst hc
      refine ru_callVH (i := 3) (len := 1) (tm_X11_room hl0 (by omega) hq1) dL_room_4 rfl pm_L_30 mf_X11_room (ab_rcv_of hrc rfl) rfl rfl (Nat.le_of_ble_eq_true rfl) [] _ (0, 9, 12, 19) rfl (fun z hz => by cases hz) (by decide) (by decide) pc_L_19 (Or.inl ⟨rfl, 3, rfl, dL_room_12⟩) (by decide) ?_
      refine ru_iconst dL_room_13 kc_i_1 <| ?_
      cases h
      exact ru_ret (v := some (.int _)) ⟨_, rfl, rfl, dL_room_14⟩
    cases h
theorem tm_L_room {l : Launch} {g : ab_G} (hl0 : l.stackTraces = false) {d : Nat} (hd : 5 ≤ d) {l0 : Nat} {l1 : Int32} {l2 : Nat} {m : ab_Mm} {z : (Int32 × ab_Mm)} (h : dd_L_room l0 l1 l2 m = some z) : ab_Met l g yL_room cL_room 4 (some .int) [(0, 9, 12, 19)] d [.ref l0, .int l1, .ref l2] m (.inl (some (.int z.1))) z.2 := by
  obtain ⟨d2, rfl⟩ : ∃ d2, d = d2 + 1 := ⟨d - 1, by omega⟩
  exact ab_ofH hl0 (by decide +kernel) (Nat.le_of_ble_eq_true rfl) rfl (te_L_room hl0 hd _ _ _ _ _ h)
theorem te_L_typeOf {l : Launch} {g : ab_G} (hl0 : l.stackTraces = false) {d2 : Nat} (hd : 4 ≤ d2 + 1)   (l0 : Nat) (l1 : Int32) (l2 : Nat) (m0 : ab_Mm) (z : (Int32 × ab_Mm)) (h : dd_L_typeOf  l0 l1 l2 m0 = some z) : ab_W l g cL_typeOf RL 4 (some .int) [(0, 9, 12, 19)] false (d2 + 1) (.inl (some (.int z.1))) z.2 0 [(0, .ref l0), (1, .int l1), (2, .ref l2)] [] m0 := by
  unfold dd_L_typeOf at h
  refine ru_aload_n (i := 2) dL_typeOf_0 rfl rfl <| ru_iconst dL_typeOf_1 kc_i_0 <| ru_aload_n (i := 0) dL_typeOf_2 rfl rfl <| ru_iload_n (i := 1) dL_typeOf_3 rfl rfl <| ?_
  obtain ⟨_, hrc, h⟩ := Option.bind_eq_some_iff.mp h
  obtain ⟨q1, hq1, h⟩ := Option.bind_eq_some_iff.mp h
  obtain ⟨v1, m1⟩ := q1
  cases v1 with
  | inl v1 =>
    dsimp only at h
    refine ru_callV (tm_X11_typeOf hl0 (by omega) hq1) dL_typeOf_4 rfl pm_L_33 mf_X11_typeOf (ab_rcv_of hrc rfl) rfl rfl (Nat.le_of_ble_eq_true rfl) ?_
    refine ru_i2l dL_typeOf_7 <| ?_
    refine ru_lastore h dL_typeOf_8 ?_
    intro m2 h
    refine ru_goto (tgt := 15) dL_typeOf_9 (by decide) <| ?_
    refine ru_iconst dL_typeOf_15 kc_i_0 <| ?_
    cases h
    exact ru_ret (v := some (.int _)) ⟨_, rfl, rfl, dL_typeOf_16⟩
  | inr v1 =>
    dsimp only at h
    rcases ab_iff h with ⟨hc, h⟩ | ⟨hc, h⟩
    · subst hc
      refine ru_callVH (i := 3) (len := 1) (tm_X11_typeOf hl0 (by omega) hq1) dL_typeOf_4 rfl pm_L_33 mf_X11_typeOf (ab_rcv_of hrc rfl) rfl rfl (Nat.le_of_ble_eq_true rfl) [] _ (0, 9, 12, 19) rfl (fun z hz => by cases hz) (by decide) (by decide) pc_L_19 (Or.inl ⟨rfl, 3, rfl, dL_typeOf_12⟩) (by decide) ?_
      refine ru_iconst dL_typeOf_13 kc_i_1 <| ?_
      cases h
      exact ru_ret (v := some (.int _)) ⟨_, rfl, rfl, dL_typeOf_14⟩
    cases h
theorem tm_L_typeOf {l : Launch} {g : ab_G} (hl0 : l.stackTraces = false) {d : Nat} (hd : 4 ≤ d) {l0 : Nat} {l1 : Int32} {l2 : Nat} {m : ab_Mm} {z : (Int32 × ab_Mm)} (h : dd_L_typeOf l0 l1 l2 m = some z) : ab_Met l g yL_typeOf cL_typeOf 4 (some .int) [(0, 9, 12, 19)] d [.ref l0, .int l1, .ref l2] m (.inl (some (.int z.1))) z.2 := by
  obtain ⟨d2, rfl⟩ : ∃ d2, d = d2 + 1 := ⟨d - 1, by omega⟩
  exact ab_ofH hl0 (by decide +kernel) (Nat.le_of_ble_eq_true rfl) rfl (te_L_typeOf hl0 hd _ _ _ _ _ h)
theorem te_L_tenantOf {l : Launch} {g : ab_G} (hl0 : l.stackTraces = false) {d2 : Nat} (hd : 4 ≤ d2 + 1)   (l0 : Nat) (l1 : Int32) (l2 : Nat) (m0 : ab_Mm) (z : (Int32 × ab_Mm)) (h : dd_L_tenantOf  l0 l1 l2 m0 = some z) : ab_W l g cL_tenantOf RL 4 (some .int) [(0, 9, 12, 19)] false (d2 + 1) (.inl (some (.int z.1))) z.2 0 [(0, .ref l0), (1, .int l1), (2, .ref l2)] [] m0 := by
  unfold dd_L_tenantOf at h
  refine ru_aload_n (i := 2) dL_tenantOf_0 rfl rfl <| ru_iconst dL_tenantOf_1 kc_i_0 <| ru_aload_n (i := 0) dL_tenantOf_2 rfl rfl <| ru_iload_n (i := 1) dL_tenantOf_3 rfl rfl <| ?_
  obtain ⟨_, hrc, h⟩ := Option.bind_eq_some_iff.mp h
  obtain ⟨q1, hq1, h⟩ := Option.bind_eq_some_iff.mp h
  obtain ⟨v1, m1⟩ := q1
  cases v1 with
  | inl v1 =>
    dsimp only at h
    refine ru_callV (tm_X11_tenantOf hl0 (by omega) hq1) dL_tenantOf_4 rfl pm_L_36 mf_X11_tenantOf (ab_rcv_of hrc rfl) rfl rfl (Nat.le_of_ble_eq_true rfl) ?_
    refine ru_i2l dL_tenantOf_7 <| ?_
    refine ru_lastore h dL_tenantOf_8 ?_
    intro m2 h
    refine ru_goto (tgt := 15) dL_tenantOf_9 (by decide) <| ?_
    refine ru_iconst dL_tenantOf_15 kc_i_0 <| ?_
    cases h
    exact ru_ret (v := some (.int _)) ⟨_, rfl, rfl, dL_tenantOf_16⟩
  | inr v1 =>
    dsimp only at h
    rcases ab_iff h with ⟨hc, h⟩ | ⟨hc, h⟩
    · subst hc
      refine ru_callVH (i := 3) (len := 1) (tm_X11_tenantOf hl0 (by omega) hq1) dL_tenantOf_4 rfl pm_L_36 mf_X11_tenantOf (ab_rcv_of hrc rfl) rfl rfl (Nat.le_of_ble_eq_true rfl) [] _ (0, 9, 12, 19) rfl (fun z hz => by cases hz) (by decide) (by decide) pc_L_19 (Or.inl ⟨rfl, 3, rfl, dL_tenantOf_12⟩) (by decide) ?_
      refine ru_iconst dL_tenantOf_13 kc_i_1 <| ?_
      cases h
      exact ru_ret (v := some (.int _)) ⟨_, rfl, rfl, dL_tenantOf_14⟩
    cases h
theorem tm_L_tenantOf {l : Launch} {g : ab_G} (hl0 : l.stackTraces = false) {d : Nat} (hd : 4 ≤ d) {l0 : Nat} {l1 : Int32} {l2 : Nat} {m : ab_Mm} {z : (Int32 × ab_Mm)} (h : dd_L_tenantOf l0 l1 l2 m = some z) : ab_Met l g yL_tenantOf cL_tenantOf 4 (some .int) [(0, 9, 12, 19)] d [.ref l0, .int l1, .ref l2] m (.inl (some (.int z.1))) z.2 := by
  obtain ⟨d2, rfl⟩ : ∃ d2, d = d2 + 1 := ⟨d - 1, by omega⟩
  exact ab_ofH hl0 (by decide +kernel) (Nat.le_of_ble_eq_true rfl) rfl (te_L_tenantOf hl0 hd _ _ _ _ _ h)
theorem te_L_hostOf {l : Launch} {g : ab_G} (hl0 : l.stackTraces = false) {d2 : Nat} (hd : 4 ≤ d2 + 1)   (l0 : Nat) (l1 : Int32) (l2 : Nat) (m0 : ab_Mm) (z : (Int32 × ab_Mm)) (h : dd_L_hostOf  l0 l1 l2 m0 = some z) : ab_W l g cL_hostOf RL 4 (some .int) [(0, 9, 12, 19)] false (d2 + 1) (.inl (some (.int z.1))) z.2 0 [(0, .ref l0), (1, .int l1), (2, .ref l2)] [] m0 := by
  unfold dd_L_hostOf at h
  refine ru_aload_n (i := 2) dL_hostOf_0 rfl rfl <| ru_iconst dL_hostOf_1 kc_i_0 <| ru_aload_n (i := 0) dL_hostOf_2 rfl rfl <| ru_iload_n (i := 1) dL_hostOf_3 rfl rfl <| ?_
  obtain ⟨_, hrc, h⟩ := Option.bind_eq_some_iff.mp h
  obtain ⟨q1, hq1, h⟩ := Option.bind_eq_some_iff.mp h
  obtain ⟨v1, m1⟩ := q1
  cases v1 with
  | inl v1 =>
    dsimp only at h
    refine ru_callV (tm_X11_hostOf hl0 (by omega) hq1) dL_hostOf_4 rfl pm_L_39 mf_X11_hostOf (ab_rcv_of hrc rfl) rfl rfl (Nat.le_of_ble_eq_true rfl) ?_
    refine ru_i2l dL_hostOf_7 <| ?_
    refine ru_lastore h dL_hostOf_8 ?_
    intro m2 h
    refine ru_goto (tgt := 15) dL_hostOf_9 (by decide) <| ?_
    refine ru_iconst dL_hostOf_15 kc_i_0 <| ?_
    cases h
    exact ru_ret (v := some (.int _)) ⟨_, rfl, rfl, dL_hostOf_16⟩
  | inr v1 =>
    dsimp only at h
    rcases ab_iff h with ⟨hc, h⟩ | ⟨hc, h⟩
    · subst hc
      refine ru_callVH (i := 3) (len := 1) (tm_X11_hostOf hl0 (by omega) hq1) dL_hostOf_4 rfl pm_L_39 mf_X11_hostOf (ab_rcv_of hrc rfl) rfl rfl (Nat.le_of_ble_eq_true rfl) [] _ (0, 9, 12, 19) rfl (fun z hz => by cases hz) (by decide) (by decide) pc_L_19 (Or.inl ⟨rfl, 3, rfl, dL_hostOf_12⟩) (by decide) ?_
      refine ru_iconst dL_hostOf_13 kc_i_1 <| ?_
      cases h
      exact ru_ret (v := some (.int _)) ⟨_, rfl, rfl, dL_hostOf_14⟩
    cases h
theorem tm_L_hostOf {l : Launch} {g : ab_G} (hl0 : l.stackTraces = false) {d : Nat} (hd : 4 ≤ d) {l0 : Nat} {l1 : Int32} {l2 : Nat} {m : ab_Mm} {z : (Int32 × ab_Mm)} (h : dd_L_hostOf l0 l1 l2 m = some z) : ab_Met l g yL_hostOf cL_hostOf 4 (some .int) [(0, 9, 12, 19)] d [.ref l0, .int l1, .ref l2] m (.inl (some (.int z.1))) z.2 := by
  obtain ⟨d2, rfl⟩ : ∃ d2, d = d2 + 1 := ⟨d - 1, by omega⟩
  exact ab_ofH hl0 (by decide +kernel) (Nat.le_of_ble_eq_true rfl) rfl (te_L_hostOf hl0 hd _ _ _ _ _ h)
theorem te_L_bidOf {l : Launch} {g : ab_G} (hl0 : l.stackTraces = false) {d2 : Nat} (hd : 4 ≤ d2 + 1)   (l0 : Nat) (l1 : Int32) (l2 : Nat) (m0 : ab_Mm) (z : (Int32 × ab_Mm)) (h : dd_L_bidOf  l0 l1 l2 m0 = some z) : ab_W l g cL_bidOf RL 4 (some .int) [(0, 9, 12, 19)] false (d2 + 1) (.inl (some (.int z.1))) z.2 0 [(0, .ref l0), (1, .int l1), (2, .ref l2)] [] m0 := by
  unfold dd_L_bidOf at h
  refine ru_aload_n (i := 2) dL_bidOf_0 rfl rfl <| ru_iconst dL_bidOf_1 kc_i_0 <| ru_aload_n (i := 0) dL_bidOf_2 rfl rfl <| ru_iload_n (i := 1) dL_bidOf_3 rfl rfl <| ?_
  obtain ⟨_, hrc, h⟩ := Option.bind_eq_some_iff.mp h
  obtain ⟨q1, hq1, h⟩ := Option.bind_eq_some_iff.mp h
  obtain ⟨v1, m1⟩ := q1
  cases v1 with
  | inl v1 =>
    dsimp only at h
    refine ru_callV (tm_X11_bidOf hl0 (by omega) hq1) dL_bidOf_4 rfl pm_L_42 mf_X11_bidOf (ab_rcv_of hrc rfl) rfl rfl (Nat.le_of_ble_eq_true rfl) ?_
    refine ru_i2l dL_bidOf_7 <| ?_
    refine ru_lastore h dL_bidOf_8 ?_
    intro m2 h
    refine ru_goto (tgt := 15) dL_bidOf_9 (by decide) <| ?_
    refine ru_iconst dL_bidOf_15 kc_i_0 <| ?_
    cases h
    exact ru_ret (v := some (.int _)) ⟨_, rfl, rfl, dL_bidOf_16⟩
  | inr v1 =>
    dsimp only at h
    rcases ab_iff h with ⟨hc, h⟩ | ⟨hc, h⟩
    · subst hc
      refine ru_callVH (i := 3) (len := 1) (tm_X11_bidOf hl0 (by omega) hq1) dL_bidOf_4 rfl pm_L_42 mf_X11_bidOf (ab_rcv_of hrc rfl) rfl rfl (Nat.le_of_ble_eq_true rfl) [] _ (0, 9, 12, 19) rfl (fun z hz => by cases hz) (by decide) (by decide) pc_L_19 (Or.inl ⟨rfl, 3, rfl, dL_bidOf_12⟩) (by decide) ?_
      refine ru_iconst dL_bidOf_13 kc_i_1 <| ?_
      cases h
      exact ru_ret (v := some (.int _)) ⟨_, rfl, rfl, dL_bidOf_14⟩
    cases h
theorem tm_L_bidOf {l : Launch} {g : ab_G} (hl0 : l.stackTraces = false) {d : Nat} (hd : 4 ≤ d) {l0 : Nat} {l1 : Int32} {l2 : Nat} {m : ab_Mm} {z : (Int32 × ab_Mm)} (h : dd_L_bidOf l0 l1 l2 m = some z) : ab_Met l g yL_bidOf cL_bidOf 4 (some .int) [(0, 9, 12, 19)] d [.ref l0, .int l1, .ref l2] m (.inl (some (.int z.1))) z.2 := by
  obtain ⟨d2, rfl⟩ : ∃ d2, d = d2 + 1 := ⟨d - 1, by omega⟩
  exact ab_ofH hl0 (by decide +kernel) (Nat.le_of_ble_eq_true rfl) rfl (te_L_bidOf hl0 hd _ _ _ _ _ h)
theorem te_L_noticeOf {l : Launch} {g : ab_G} (hl0 : l.stackTraces = false) {d2 : Nat} (hd : 4 ≤ d2 + 1)   (l0 : Nat) (l1 : Int32) (l2 : Nat) (m0 : ab_Mm) (z : (Int32 × ab_Mm)) (h : dd_L_noticeOf  l0 l1 l2 m0 = some z) : ab_W l g cL_noticeOf RL 4 (some .int) [(0, 9, 12, 19)] false (d2 + 1) (.inl (some (.int z.1))) z.2 0 [(0, .ref l0), (1, .int l1), (2, .ref l2)] [] m0 := by
  unfold dd_L_noticeOf at h
  refine ru_aload_n (i := 2) dL_noticeOf_0 rfl rfl <| ru_iconst dL_noticeOf_1 kc_i_0 <| ru_aload_n (i := 0) dL_noticeOf_2 rfl rfl <| ru_iload_n (i := 1) dL_noticeOf_3 rfl rfl <| ?_
  obtain ⟨_, hrc, h⟩ := Option.bind_eq_some_iff.mp h
  obtain ⟨q1, hq1, h⟩ := Option.bind_eq_some_iff.mp h
  obtain ⟨v1, m1⟩ := q1
  cases v1 with
  | inl v1 =>
    dsimp only at h
    refine ru_callV (tm_X11_noticeOf hl0 (by omega) hq1) dL_noticeOf_4 rfl pm_L_45 mf_X11_noticeOf (ab_rcv_of hrc rfl) rfl rfl (Nat.le_of_ble_eq_true rfl) ?_
    refine ru_i2l dL_noticeOf_7 <| ?_
    refine ru_lastore h dL_noticeOf_8 ?_
    intro m2 h
    refine ru_goto (tgt := 15) dL_noticeOf_9 (by decide) <| ?_
    refine ru_iconst dL_noticeOf_15 kc_i_0 <| ?_
    cases h
    exact ru_ret (v := some (.int _)) ⟨_, rfl, rfl, dL_noticeOf_16⟩
  | inr v1 =>
    dsimp only at h
    rcases ab_iff h with ⟨hc, h⟩ | ⟨hc, h⟩
    · subst hc
      refine ru_callVH (i := 3) (len := 1) (tm_X11_noticeOf hl0 (by omega) hq1) dL_noticeOf_4 rfl pm_L_45 mf_X11_noticeOf (ab_rcv_of hrc rfl) rfl rfl (Nat.le_of_ble_eq_true rfl) [] _ (0, 9, 12, 19) rfl (fun z hz => by cases hz) (by decide) (by decide) pc_L_19 (Or.inl ⟨rfl, 3, rfl, dL_noticeOf_12⟩) (by decide) ?_
      refine ru_iconst dL_noticeOf_13 kc_i_1 <| ?_
      cases h
      exact ru_ret (v := some (.int _)) ⟨_, rfl, rfl, dL_noticeOf_14⟩
    cases h
theorem tm_L_noticeOf {l : Launch} {g : ab_G} (hl0 : l.stackTraces = false) {d : Nat} (hd : 4 ≤ d) {l0 : Nat} {l1 : Int32} {l2 : Nat} {m : ab_Mm} {z : (Int32 × ab_Mm)} (h : dd_L_noticeOf l0 l1 l2 m = some z) : ab_Met l g yL_noticeOf cL_noticeOf 4 (some .int) [(0, 9, 12, 19)] d [.ref l0, .int l1, .ref l2] m (.inl (some (.int z.1))) z.2 := by
  obtain ⟨d2, rfl⟩ : ∃ d2, d = d2 + 1 := ⟨d - 1, by omega⟩
  exact ab_ofH hl0 (by decide +kernel) (Nat.le_of_ble_eq_true rfl) rfl (te_L_noticeOf hl0 hd _ _ _ _ _ h)
theorem te_L_spent {l : Launch} {g : ab_G} (hl0 : l.stackTraces = false) {d2 : Nat} (hd : 4 ≤ d2 + 1)   (l0 : Nat) (l1 : Int32) (l2 : Nat) (m0 : ab_Mm) (z : (Int32 × ab_Mm)) (h : dd_L_spent  l0 l1 l2 m0 = some z) : ab_W l g cL_spent RL 4 (some .int) [(0, 8, 11, 19)] false (d2 + 1) (.inl (some (.int z.1))) z.2 0 [(0, .ref l0), (1, .int l1), (2, .ref l2)] [] m0 := by
  unfold dd_L_spent at h
  refine ru_aload_n (i := 2) dL_spent_0 rfl rfl <| ru_iconst dL_spent_1 kc_i_0 <| ru_aload_n (i := 0) dL_spent_2 rfl rfl <| ru_iload_n (i := 1) dL_spent_3 rfl rfl <| ?_
  obtain ⟨_, hrc, h⟩ := Option.bind_eq_some_iff.mp h
  obtain ⟨q1, hq1, h⟩ := Option.bind_eq_some_iff.mp h
  obtain ⟨v1, m1⟩ := q1
  cases v1 with
  | inl v1 =>
    dsimp only at h
    refine ru_callV (tm_X11_spent hl0 (by omega) hq1) dL_spent_4 rfl pm_L_48 mf_X11_spent (ab_rcv_of hrc rfl) rfl rfl (Nat.le_of_ble_eq_true rfl) ?_
    refine ru_lastore h dL_spent_7 ?_
    intro m2 h
    refine ru_goto (tgt := 14) dL_spent_8 (by decide) <| ?_
    refine ru_iconst dL_spent_14 kc_i_0 <| ?_
    cases h
    exact ru_ret (v := some (.int _)) ⟨_, rfl, rfl, dL_spent_15⟩
  | inr v1 =>
    dsimp only at h
    rcases ab_iff h with ⟨hc, h⟩ | ⟨hc, h⟩
    · subst hc
      refine ru_callVH (i := 3) (len := 1) (tm_X11_spent hl0 (by omega) hq1) dL_spent_4 rfl pm_L_48 mf_X11_spent (ab_rcv_of hrc rfl) rfl rfl (Nat.le_of_ble_eq_true rfl) [] _ (0, 8, 11, 19) rfl (fun z hz => by cases hz) (by decide) (by decide) pc_L_19 (Or.inl ⟨rfl, 3, rfl, dL_spent_11⟩) (by decide) ?_
      refine ru_iconst dL_spent_12 kc_i_1 <| ?_
      cases h
      exact ru_ret (v := some (.int _)) ⟨_, rfl, rfl, dL_spent_13⟩
    cases h
theorem tm_L_spent {l : Launch} {g : ab_G} (hl0 : l.stackTraces = false) {d : Nat} (hd : 4 ≤ d) {l0 : Nat} {l1 : Int32} {l2 : Nat} {m : ab_Mm} {z : (Int32 × ab_Mm)} (h : dd_L_spent l0 l1 l2 m = some z) : ab_Met l g yL_spent cL_spent 4 (some .int) [(0, 8, 11, 19)] d [.ref l0, .int l1, .ref l2] m (.inl (some (.int z.1))) z.2 := by
  obtain ⟨d2, rfl⟩ : ∃ d2, d = d2 + 1 := ⟨d - 1, by omega⟩
  exact ab_ofH hl0 (by decide +kernel) (Nat.le_of_ble_eq_true rfl) rfl (te_L_spent hl0 hd _ _ _ _ _ h)
theorem te_L_hourlyBill {l : Launch} {g : ab_G} (hl0 : l.stackTraces = false) {d2 : Nat} (hd : 6 ≤ d2 + 1)   (l0 : Nat) (l1 : Int32) (l2 : Nat) (m0 : ab_Mm) (z : (Int32 × ab_Mm)) (h : dd_L_hourlyBill  l0 l1 l2 m0 = some z) : ab_W l g cL_hourlyBill RL 4 (some .int) [(0, 9, 12, 19)] false (d2 + 1) (.inl (some (.int z.1))) z.2 0 [(0, .ref l0), (1, .int l1), (2, .ref l2)] [] m0 := by
  unfold dd_L_hourlyBill at h
  refine ru_aload_n (i := 2) dL_hourlyBill_0 rfl rfl <| ru_iconst dL_hourlyBill_1 kc_i_0 <| ru_aload_n (i := 0) dL_hourlyBill_2 rfl rfl <| ru_iload_n (i := 1) dL_hourlyBill_3 rfl rfl <| ?_
  obtain ⟨_, hrc, h⟩ := Option.bind_eq_some_iff.mp h
  obtain ⟨q1, hq1, h⟩ := Option.bind_eq_some_iff.mp h
  obtain ⟨v1, m1⟩ := q1
  cases v1 with
  | inl v1 =>
    dsimp only at h
    refine ru_callV (tm_X11_hourlyBill hl0 (by omega) hq1) dL_hourlyBill_4 rfl pm_L_52 mf_X11_hourlyBill (ab_rcv_of hrc rfl) rfl rfl (Nat.le_of_ble_eq_true rfl) ?_
    refine ru_i2l dL_hourlyBill_7 <| ?_
    refine ru_lastore h dL_hourlyBill_8 ?_
    intro m2 h
    refine ru_goto (tgt := 15) dL_hourlyBill_9 (by decide) <| ?_
    refine ru_iconst dL_hourlyBill_15 kc_i_0 <| ?_
    cases h
    exact ru_ret (v := some (.int _)) ⟨_, rfl, rfl, dL_hourlyBill_16⟩
  | inr v1 =>
    dsimp only at h
    rcases ab_iff h with ⟨hc, h⟩ | ⟨hc, h⟩
    · subst hc
      refine ru_callVH (i := 3) (len := 1) (tm_X11_hourlyBill hl0 (by omega) hq1) dL_hourlyBill_4 rfl pm_L_52 mf_X11_hourlyBill (ab_rcv_of hrc rfl) rfl rfl (Nat.le_of_ble_eq_true rfl) [] _ (0, 9, 12, 19) rfl (fun z hz => by cases hz) (by decide) (by decide) pc_L_19 (Or.inl ⟨rfl, 3, rfl, dL_hourlyBill_12⟩) (by decide) ?_
      refine ru_iconst dL_hourlyBill_13 kc_i_1 <| ?_
      cases h
      exact ru_ret (v := some (.int _)) ⟨_, rfl, rfl, dL_hourlyBill_14⟩
    cases h
theorem tm_L_hourlyBill {l : Launch} {g : ab_G} (hl0 : l.stackTraces = false) {d : Nat} (hd : 6 ≤ d) {l0 : Nat} {l1 : Int32} {l2 : Nat} {m : ab_Mm} {z : (Int32 × ab_Mm)} (h : dd_L_hourlyBill l0 l1 l2 m = some z) : ab_Met l g yL_hourlyBill cL_hourlyBill 4 (some .int) [(0, 9, 12, 19)] d [.ref l0, .int l1, .ref l2] m (.inl (some (.int z.1))) z.2 := by
  obtain ⟨d2, rfl⟩ : ∃ d2, d = d2 + 1 := ⟨d - 1, by omega⟩
  exact ab_ofH hl0 (by decide +kernel) (Nat.le_of_ble_eq_true rfl) rfl (te_L_hourlyBill hl0 hd _ _ _ _ _ h)
theorem te_L_covered {l : Launch} {g : ab_G} (hl0 : l.stackTraces = false) {d2 : Nat} (hd : 5 ≤ d2 + 1)   (l0 : Nat) (l1 : Int32) (l2 : Int32) (l3 : Nat) (m0 : ab_Mm) (z : (Int32 × ab_Mm)) (h : dd_L_covered  l0 l1 l2 l3 m0 = some z) : ab_W l g cL_covered RL 5 (some .int) [(0, 10, 13, 19)] false (d2 + 1) (.inl (some (.int z.1))) z.2 0 [(0, .ref l0), (1, .int l1), (2, .int l2), (3, .ref l3)] [] m0 := by
  unfold dd_L_covered at h
  refine ru_aload_n (i := 3) dL_covered_0 rfl rfl <| ru_iconst dL_covered_1 kc_i_0 <| ru_aload_n (i := 0) dL_covered_2 rfl rfl <| ru_iload_n (i := 1) dL_covered_3 rfl rfl <| ru_iload_n (i := 2) dL_covered_4 rfl rfl <| ?_
  obtain ⟨_, hrc, h⟩ := Option.bind_eq_some_iff.mp h
  obtain ⟨q1, hq1, h⟩ := Option.bind_eq_some_iff.mp h
  obtain ⟨v1, m1⟩ := q1
  cases v1 with
  | inl v1 =>
    dsimp only at h
    refine ru_callV (tm_X11_covered hl0 (by omega) hq1) dL_covered_5 rfl pm_L_55 mf_X11_covered (ab_rcv_of hrc rfl) rfl rfl (Nat.le_of_ble_eq_true rfl) ?_
    refine ru_i2l dL_covered_8 <| ?_
    refine ru_lastore h dL_covered_9 ?_
    intro m2 h
    refine ru_goto (tgt := 17) dL_covered_10 (by decide) <| ?_
    refine ru_iconst dL_covered_17 kc_i_0 <| ?_
    cases h
    exact ru_ret (v := some (.int _)) ⟨_, rfl, rfl, dL_covered_18⟩
  | inr v1 =>
    dsimp only at h
    rcases ab_iff h with ⟨hc, h⟩ | ⟨hc, h⟩
    · subst hc
      refine ru_callVH (i := 4) (len := 2) (tm_X11_covered hl0 (by omega) hq1) dL_covered_5 rfl pm_L_55 mf_X11_covered (ab_rcv_of hrc rfl) rfl rfl (Nat.le_of_ble_eq_true rfl) [] _ (0, 10, 13, 19) rfl (fun z hz => by cases hz) (by decide) (by decide) pc_L_19 (Or.inr ⟨rfl, dL_covered_13⟩) (by decide) ?_
      refine ru_iconst dL_covered_15 kc_i_1 <| ?_
      cases h
      exact ru_ret (v := some (.int _)) ⟨_, rfl, rfl, dL_covered_16⟩
    cases h
theorem tm_L_covered {l : Launch} {g : ab_G} (hl0 : l.stackTraces = false) {d : Nat} (hd : 5 ≤ d) {l0 : Nat} {l1 : Int32} {l2 : Int32} {l3 : Nat} {m : ab_Mm} {z : (Int32 × ab_Mm)} (h : dd_L_covered l0 l1 l2 l3 m = some z) : ab_Met l g yL_covered cL_covered 5 (some .int) [(0, 10, 13, 19)] d [.ref l0, .int l1, .int l2, .ref l3] m (.inl (some (.int z.1))) z.2 := by
  obtain ⟨d2, rfl⟩ : ∃ d2, d = d2 + 1 := ⟨d - 1, by omega⟩
  exact ab_ofH hl0 (by decide +kernel) (Nat.le_of_ble_eq_true rfl) rfl (te_L_covered hl0 hd _ _ _ _ _ _ h)
theorem tbb_L_isOverBudget_15 {l : Launch} {g : ab_G} (hl0 : l.stackTraces = false) {d2 : Nat} (hd : 4 ≤ d2 + 1)   (s0 : Nat) (s1 : Int32) (s2 : Int64) (m0 : ab_Mm) (z : (Int32 × ab_Mm)) (h : bb_L_isOverBudget_15  s0 s1 s2 m0 = some z) : ab_W l g cL_isOverBudget RL 4 (some .int) [(0, 16, 19, 19)] false (d2 + 1) (.inl (some (.int z.1))) z.2 15 [] [.long s2, .int s1, .ref s0] m0 := by
  unfold bb_L_isOverBudget_15 at h
  refine ru_lastore h dL_isOverBudget_15 ?_
  intro m1 h
  refine ru_goto (tgt := 22) dL_isOverBudget_16 (by decide) <| ?_
  refine ru_iconst dL_isOverBudget_22 kc_i_0 <| ?_
  cases h
  exact ru_ret (v := some (.int _)) ⟨_, rfl, rfl, dL_isOverBudget_23⟩
theorem te_L_isOverBudget {l : Launch} {g : ab_G} (hl0 : l.stackTraces = false) {d2 : Nat} (hd : 4 ≤ d2 + 1)   (l0 : Nat) (l1 : Int32) (l2 : Nat) (m0 : ab_Mm) (z : (Int32 × ab_Mm)) (h : dd_L_isOverBudget  l0 l1 l2 m0 = some z) : ab_W l g cL_isOverBudget RL 4 (some .int) [(0, 16, 19, 19)] false (d2 + 1) (.inl (some (.int z.1))) z.2 0 [(0, .ref l0), (1, .int l1), (2, .ref l2)] [] m0 := by
  unfold dd_L_isOverBudget at h
  refine ru_aload_n (i := 2) dL_isOverBudget_0 rfl rfl <| ru_iconst dL_isOverBudget_1 kc_i_0 <| ru_aload_n (i := 0) dL_isOverBudget_2 rfl rfl <| ru_iload_n (i := 1) dL_isOverBudget_3 rfl rfl <| ?_
  obtain ⟨_, hrc, h⟩ := Option.bind_eq_some_iff.mp h
  obtain ⟨q1, hq1, h⟩ := Option.bind_eq_some_iff.mp h
  obtain ⟨v1, m1⟩ := q1
  cases v1 with
  | inl v1 =>
    dsimp only at h
    refine ru_callV (tm_X11_isOverBudget hl0 (by omega) hq1) dL_isOverBudget_4 rfl pm_L_59 mf_X11_isOverBudget (ab_rcv_of hrc rfl) rfl rfl (Nat.le_of_ble_eq_true rfl) ?_
    refine ru_if_eq (tgt := 14) dL_isOverBudget_7 (by decide) (fun hc => ?_) (fun hc => ?_)
    · rw [if_pos hc] at h
      refine ru_lconst dL_isOverBudget_14 (v := 0) rfl <| ?_
      exact ru_pick [] rfl (tbb_L_isOverBudget_15 hl0 hd   _ _ _ _ _ h)
    · rw [if_neg hc] at h
      refine ru_lconst dL_isOverBudget_10 (v := 1) rfl <| ru_goto (tgt := 15) dL_isOverBudget_11 (by decide) <| ?_
      exact ru_pick [] rfl (tbb_L_isOverBudget_15 hl0 hd   _ _ _ _ _ h)
  | inr v1 =>
    dsimp only at h
    rcases ab_iff h with ⟨hc, h⟩ | ⟨hc, h⟩
    · subst hc
      refine ru_callVH (i := 3) (len := 1) (tm_X11_isOverBudget hl0 (by omega) hq1) dL_isOverBudget_4 rfl pm_L_59 mf_X11_isOverBudget (ab_rcv_of hrc rfl) rfl rfl (Nat.le_of_ble_eq_true rfl) [] _ (0, 16, 19, 19) rfl (fun z hz => by cases hz) (by decide) (by decide) pc_L_19 (Or.inl ⟨rfl, 3, rfl, dL_isOverBudget_19⟩) (by decide) ?_
      refine ru_iconst dL_isOverBudget_20 kc_i_1 <| ?_
      cases h
      exact ru_ret (v := some (.int _)) ⟨_, rfl, rfl, dL_isOverBudget_21⟩
    cases h
theorem tm_L_isOverBudget {l : Launch} {g : ab_G} (hl0 : l.stackTraces = false) {d : Nat} (hd : 4 ≤ d) {l0 : Nat} {l1 : Int32} {l2 : Nat} {m : ab_Mm} {z : (Int32 × ab_Mm)} (h : dd_L_isOverBudget l0 l1 l2 m = some z) : ab_Met l g yL_isOverBudget cL_isOverBudget 4 (some .int) [(0, 16, 19, 19)] d [.ref l0, .int l1, .ref l2] m (.inl (some (.int z.1))) z.2 := by
  obtain ⟨d2, rfl⟩ : ∃ d2, d = d2 + 1 := ⟨d - 1, by omega⟩
  exact ab_ofH hl0 (by decide +kernel) (Nat.le_of_ble_eq_true rfl) rfl (te_L_isOverBudget hl0 hd _ _ _ _ _ h)
theorem tbb_L_pays_15 {l : Launch} {g : ab_G} (hl0 : l.stackTraces = false) {d2 : Nat} (hd : 4 ≤ d2 + 1)   (s0 : Nat) (s1 : Int32) (s2 : Int64) (m0 : ab_Mm) (z : (Int32 × ab_Mm)) (h : bb_L_pays_15  s0 s1 s2 m0 = some z) : ab_W l g cL_pays RL 4 (some .int) [(0, 16, 19, 19)] false (d2 + 1) (.inl (some (.int z.1))) z.2 15 [] [.long s2, .int s1, .ref s0] m0 := by
  unfold bb_L_pays_15 at h
  refine ru_lastore h dL_pays_15 ?_
  intro m1 h
  refine ru_goto (tgt := 22) dL_pays_16 (by decide) <| ?_
  refine ru_iconst dL_pays_22 kc_i_0 <| ?_
  cases h
  exact ru_ret (v := some (.int _)) ⟨_, rfl, rfl, dL_pays_23⟩
theorem te_L_pays {l : Launch} {g : ab_G} (hl0 : l.stackTraces = false) {d2 : Nat} (hd : 4 ≤ d2 + 1)   (l0 : Nat) (l1 : Int32) (l2 : Nat) (m0 : ab_Mm) (z : (Int32 × ab_Mm)) (h : dd_L_pays  l0 l1 l2 m0 = some z) : ab_W l g cL_pays RL 4 (some .int) [(0, 16, 19, 19)] false (d2 + 1) (.inl (some (.int z.1))) z.2 0 [(0, .ref l0), (1, .int l1), (2, .ref l2)] [] m0 := by
  unfold dd_L_pays at h
  refine ru_aload_n (i := 2) dL_pays_0 rfl rfl <| ru_iconst dL_pays_1 kc_i_0 <| ru_aload_n (i := 0) dL_pays_2 rfl rfl <| ru_iload_n (i := 1) dL_pays_3 rfl rfl <| ?_
  obtain ⟨_, hrc, h⟩ := Option.bind_eq_some_iff.mp h
  obtain ⟨q1, hq1, h⟩ := Option.bind_eq_some_iff.mp h
  obtain ⟨v1, m1⟩ := q1
  cases v1 with
  | inl v1 =>
    dsimp only at h
    refine ru_callV (tm_X11_pays hl0 (by omega) hq1) dL_pays_4 rfl pm_L_63 mf_X11_pays (ab_rcv_of hrc rfl) rfl rfl (Nat.le_of_ble_eq_true rfl) ?_
    refine ru_if_eq (tgt := 14) dL_pays_7 (by decide) (fun hc => ?_) (fun hc => ?_)
    · rw [if_pos hc] at h
      refine ru_lconst dL_pays_14 (v := 0) rfl <| ?_
      exact ru_pick [] rfl (tbb_L_pays_15 hl0 hd   _ _ _ _ _ h)
    · rw [if_neg hc] at h
      refine ru_lconst dL_pays_10 (v := 1) rfl <| ru_goto (tgt := 15) dL_pays_11 (by decide) <| ?_
      exact ru_pick [] rfl (tbb_L_pays_15 hl0 hd   _ _ _ _ _ h)
  | inr v1 =>
    dsimp only at h
    rcases ab_iff h with ⟨hc, h⟩ | ⟨hc, h⟩
    · subst hc
      refine ru_callVH (i := 3) (len := 1) (tm_X11_pays hl0 (by omega) hq1) dL_pays_4 rfl pm_L_63 mf_X11_pays (ab_rcv_of hrc rfl) rfl rfl (Nat.le_of_ble_eq_true rfl) [] _ (0, 16, 19, 19) rfl (fun z hz => by cases hz) (by decide) (by decide) pc_L_19 (Or.inl ⟨rfl, 3, rfl, dL_pays_19⟩) (by decide) ?_
      refine ru_iconst dL_pays_20 kc_i_1 <| ?_
      cases h
      exact ru_ret (v := some (.int _)) ⟨_, rfl, rfl, dL_pays_21⟩
    cases h
theorem tm_L_pays {l : Launch} {g : ab_G} (hl0 : l.stackTraces = false) {d : Nat} (hd : 4 ≤ d) {l0 : Nat} {l1 : Int32} {l2 : Nat} {m : ab_Mm} {z : (Int32 × ab_Mm)} (h : dd_L_pays l0 l1 l2 m = some z) : ab_Met l g yL_pays cL_pays 4 (some .int) [(0, 16, 19, 19)] d [.ref l0, .int l1, .ref l2] m (.inl (some (.int z.1))) z.2 := by
  obtain ⟨d2, rfl⟩ : ∃ d2, d = d2 + 1 := ⟨d - 1, by omega⟩
  exact ab_ofH hl0 (by decide +kernel) (Nat.le_of_ble_eq_true rfl) rfl (te_L_pays hl0 hd _ _ _ _ _ h)
theorem te_L_cheapestEviction {l : Launch} {g : ab_G} (hl0 : l.stackTraces = false) {d2 : Nat} (hd : 36 ≤ d2 + 1)   (l0 : Nat) (l1 : Int32) (l2 : Int32) (l3 : Nat) (m0 : ab_Mm) (z : (Int32 × ab_Mm)) (h : dd_L_cheapestEviction  l0 l1 l2 l3 m0 = some z) : ab_W l g cL_cheapestEviction RL 5 (some .int) [(0, 10, 13, 19)] false (d2 + 1) (.inl (some (.int z.1))) z.2 0 [(0, .ref l0), (1, .int l1), (2, .int l2), (3, .ref l3)] [] m0 := by
  unfold dd_L_cheapestEviction at h
  refine ru_aload_n (i := 3) dL_cheapestEviction_0 rfl rfl <| ru_iconst dL_cheapestEviction_1 kc_i_0 <| ru_aload_n (i := 0) dL_cheapestEviction_2 rfl rfl <| ru_iload_n (i := 1) dL_cheapestEviction_3 rfl rfl <| ru_iload_n (i := 2) dL_cheapestEviction_4 rfl rfl <| ?_
  obtain ⟨_, hrc, h⟩ := Option.bind_eq_some_iff.mp h
  obtain ⟨q1, hq1, h⟩ := Option.bind_eq_some_iff.mp h
  obtain ⟨v1, m1⟩ := q1
  cases v1 with
  | inl v1 =>
    dsimp only at h
    refine ru_callV (tm_X11_cheapestEviction hl0 (by omega) hq1) dL_cheapestEviction_5 rfl pm_L_66 mf_X11_cheapestEviction (ab_rcv_of hrc rfl) rfl rfl (Nat.le_of_ble_eq_true rfl) ?_
    refine ru_i2l dL_cheapestEviction_8 <| ?_
    refine ru_lastore h dL_cheapestEviction_9 ?_
    intro m2 h
    refine ru_goto (tgt := 17) dL_cheapestEviction_10 (by decide) <| ?_
    refine ru_iconst dL_cheapestEviction_17 kc_i_0 <| ?_
    cases h
    exact ru_ret (v := some (.int _)) ⟨_, rfl, rfl, dL_cheapestEviction_18⟩
  | inr v1 =>
    dsimp only at h
    rcases ab_iff h with ⟨hc, h⟩ | ⟨hc, h⟩
    · subst hc
      refine ru_callVH (i := 4) (len := 2) (tm_X11_cheapestEviction hl0 (by omega) hq1) dL_cheapestEviction_5 rfl pm_L_66 mf_X11_cheapestEviction (ab_rcv_of hrc rfl) rfl rfl (Nat.le_of_ble_eq_true rfl) [] _ (0, 10, 13, 19) rfl (fun z hz => by cases hz) (by decide) (by decide) pc_L_19 (Or.inr ⟨rfl, dL_cheapestEviction_13⟩) (by decide) ?_
      refine ru_iconst dL_cheapestEviction_15 kc_i_1 <| ?_
      cases h
      exact ru_ret (v := some (.int _)) ⟨_, rfl, rfl, dL_cheapestEviction_16⟩
    cases h
theorem tm_L_cheapestEviction {l : Launch} {g : ab_G} (hl0 : l.stackTraces = false) {d : Nat} (hd : 36 ≤ d) {l0 : Nat} {l1 : Int32} {l2 : Int32} {l3 : Nat} {m : ab_Mm} {z : (Int32 × ab_Mm)} (h : dd_L_cheapestEviction l0 l1 l2 l3 m = some z) : ab_Met l g yL_cheapestEviction cL_cheapestEviction 5 (some .int) [(0, 10, 13, 19)] d [.ref l0, .int l1, .int l2, .ref l3] m (.inl (some (.int z.1))) z.2 := by
  obtain ⟨d2, rfl⟩ : ∃ d2, d = d2 + 1 := ⟨d - 1, by omega⟩
  exact ab_ofH hl0 (by decide +kernel) (Nat.le_of_ble_eq_true rfl) rfl (te_L_cheapestEviction hl0 hd _ _ _ _ _ _ h)
theorem te_L_migrationCost {l : Launch} {g : ab_G} (hl0 : l.stackTraces = false) {d2 : Nat} (hd : 6 ≤ d2 + 1)   (l0 : Nat) (l1 : Int32) (l2 : Nat) (m0 : ab_Mm) (z : (Int32 × ab_Mm)) (h : dd_L_migrationCost  l0 l1 l2 m0 = some z) : ab_W l g cL_migrationCost RL 4 (some .int) [(0, 9, 12, 19)] false (d2 + 1) (.inl (some (.int z.1))) z.2 0 [(0, .ref l0), (1, .int l1), (2, .ref l2)] [] m0 := by
  unfold dd_L_migrationCost at h
  refine ru_aload_n (i := 2) dL_migrationCost_0 rfl rfl <| ru_iconst dL_migrationCost_1 kc_i_0 <| ru_aload_n (i := 0) dL_migrationCost_2 rfl rfl <| ru_iload_n (i := 1) dL_migrationCost_3 rfl rfl <| ?_
  obtain ⟨_, hrc, h⟩ := Option.bind_eq_some_iff.mp h
  obtain ⟨q1, hq1, h⟩ := Option.bind_eq_some_iff.mp h
  obtain ⟨v1, m1⟩ := q1
  cases v1 with
  | inl v1 =>
    dsimp only at h
    refine ru_callV (tm_X11_migrationCost hl0 (by omega) hq1) dL_migrationCost_4 rfl pm_L_69 mf_X11_migrationCost (ab_rcv_of hrc rfl) rfl rfl (Nat.le_of_ble_eq_true rfl) ?_
    refine ru_i2l dL_migrationCost_7 <| ?_
    refine ru_lastore h dL_migrationCost_8 ?_
    intro m2 h
    refine ru_goto (tgt := 15) dL_migrationCost_9 (by decide) <| ?_
    refine ru_iconst dL_migrationCost_15 kc_i_0 <| ?_
    cases h
    exact ru_ret (v := some (.int _)) ⟨_, rfl, rfl, dL_migrationCost_16⟩
  | inr v1 =>
    dsimp only at h
    rcases ab_iff h with ⟨hc, h⟩ | ⟨hc, h⟩
    · subst hc
      refine ru_callVH (i := 3) (len := 1) (tm_X11_migrationCost hl0 (by omega) hq1) dL_migrationCost_4 rfl pm_L_69 mf_X11_migrationCost (ab_rcv_of hrc rfl) rfl rfl (Nat.le_of_ble_eq_true rfl) [] _ (0, 9, 12, 19) rfl (fun z hz => by cases hz) (by decide) (by decide) pc_L_19 (Or.inl ⟨rfl, 3, rfl, dL_migrationCost_12⟩) (by decide) ?_
      refine ru_iconst dL_migrationCost_13 kc_i_1 <| ?_
      cases h
      exact ru_ret (v := some (.int _)) ⟨_, rfl, rfl, dL_migrationCost_14⟩
    cases h
theorem tm_L_migrationCost {l : Launch} {g : ab_G} (hl0 : l.stackTraces = false) {d : Nat} (hd : 6 ≤ d) {l0 : Nat} {l1 : Int32} {l2 : Nat} {m : ab_Mm} {z : (Int32 × ab_Mm)} (h : dd_L_migrationCost l0 l1 l2 m = some z) : ab_Met l g yL_migrationCost cL_migrationCost 4 (some .int) [(0, 9, 12, 19)] d [.ref l0, .int l1, .ref l2] m (.inl (some (.int z.1))) z.2 := by
  obtain ⟨d2, rfl⟩ : ∃ d2, d = d2 + 1 := ⟨d - 1, by omega⟩
  exact ab_ofH hl0 (by decide +kernel) (Nat.le_of_ble_eq_true rfl) rfl (te_L_migrationCost hl0 hd _ _ _ _ _ h)
theorem te_L_drainTo {l : Launch} {g : ab_G} (hl0 : l.stackTraces = false) {d2 : Nat} (hd : 36 ≤ d2 + 1)   (l0 : Nat) (l1 : Int32) (l2 : Int32) (l3 : Nat) (m0 : ab_Mm) (z : (Int32 × ab_Mm)) (h : dd_L_drainTo  l0 l1 l2 l3 m0 = some z) : ab_W l g cL_drainTo RL 5 (some .int) [(0, 10, 13, 19), (0, 10, 17, 75)] false (d2 + 1) (.inl (some (.int z.1))) z.2 0 [(0, .ref l0), (1, .int l1), (2, .int l2), (3, .ref l3)] [] m0 := by
  unfold dd_L_drainTo at h
  refine ru_aload_n (i := 3) dL_drainTo_0 rfl rfl <| ru_iconst dL_drainTo_1 kc_i_0 <| ru_aload_n (i := 0) dL_drainTo_2 rfl rfl <| ru_iload_n (i := 1) dL_drainTo_3 rfl rfl <| ru_iload_n (i := 2) dL_drainTo_4 rfl rfl <| ?_
  obtain ⟨_, hrc, h⟩ := Option.bind_eq_some_iff.mp h
  obtain ⟨q1, hq1, h⟩ := Option.bind_eq_some_iff.mp h
  obtain ⟨v1, m1⟩ := q1
  cases v1 with
  | inl v1 =>
    dsimp only at h
    refine ru_callV (tm_X11_drainTo hl0 (by omega) hq1) dL_drainTo_5 rfl pm_L_72 mf_X11_drainTo (ab_rcv_of hrc rfl) rfl rfl (Nat.le_of_ble_eq_true rfl) ?_
    refine ru_i2l dL_drainTo_8 <| ?_
    refine ru_lastore h dL_drainTo_9 ?_
    intro m2 h
    refine ru_goto (tgt := 21) dL_drainTo_10 (by decide) <| ?_
    refine ru_iconst dL_drainTo_21 kc_i_0 <| ?_
    cases h
    exact ru_ret (v := some (.int _)) ⟨_, rfl, rfl, dL_drainTo_22⟩
  | inr v1 =>
    dsimp only at h
    rcases ab_iff h with ⟨hc, h⟩ | ⟨hc, h⟩
    · subst hc
      refine ru_callVH (i := 4) (len := 2) (tm_X11_drainTo hl0 (by omega) hq1) dL_drainTo_5 rfl pm_L_72 mf_X11_drainTo (ab_rcv_of hrc rfl) rfl rfl (Nat.le_of_ble_eq_true rfl) [] _ (0, 10, 13, 19) rfl (fun z hz => by cases hz) (by decide) (by decide) pc_L_19 (Or.inr ⟨rfl, dL_drainTo_13⟩) (by decide) ?_
      refine ru_iconst dL_drainTo_15 kc_i_1 <| ?_
      cases h
      exact ru_ret (v := some (.int _)) ⟨_, rfl, rfl, dL_drainTo_16⟩
    rcases ab_iff h with ⟨hc, h⟩ | ⟨hc, h⟩
    · subst hc
      refine ru_callVH (i := 4) (len := 2) (tm_X11_drainTo hl0 (by omega) hq1) dL_drainTo_5 rfl pm_L_72 mf_X11_drainTo (ab_rcv_of hrc rfl) rfl rfl (Nat.le_of_ble_eq_true rfl) [(0, 10, 13, 19)] _ (0, 10, 17, 75) rfl (fun z hz => by
            simp only [List.mem_cons, List.not_mem_nil, or_false] at hz
            rcases hz with rfl
            · exact ⟨by decide, 0, by decide, by decide, by decide, pc_L_19⟩) (by decide) (by decide) pc_L_75 (Or.inr ⟨rfl, dL_drainTo_17⟩) (by decide) ?_
      refine ru_iconst dL_drainTo_19 kc_i_2 <| ?_
      cases h
      exact ru_ret (v := some (.int _)) ⟨_, rfl, rfl, dL_drainTo_20⟩
    cases h
theorem tm_L_drainTo {l : Launch} {g : ab_G} (hl0 : l.stackTraces = false) {d : Nat} (hd : 36 ≤ d) {l0 : Nat} {l1 : Int32} {l2 : Int32} {l3 : Nat} {m : ab_Mm} {z : (Int32 × ab_Mm)} (h : dd_L_drainTo l0 l1 l2 l3 m = some z) : ab_Met l g yL_drainTo cL_drainTo 5 (some .int) [(0, 10, 13, 19), (0, 10, 17, 75)] d [.ref l0, .int l1, .int l2, .ref l3] m (.inl (some (.int z.1))) z.2 := by
  obtain ⟨d2, rfl⟩ : ∃ d2, d = d2 + 1 := ⟨d - 1, by omega⟩
  exact ab_ofH hl0 (by decide +kernel) (Nat.le_of_ble_eq_true rfl) rfl (te_L_drainTo hl0 hd _ _ _ _ _ _ h)
theorem te_L_priceAfter {l : Launch} {g : ab_G} (hl0 : l.stackTraces = false) {d2 : Nat} (hd : 8 ≤ d2 + 1)   (l0 : Nat) (l1 : Int32) (l2 : Int32) (l3 : Nat) (m0 : ab_Mm) (z : (Int32 × ab_Mm)) (h : dd_L_priceAfter  l0 l1 l2 l3 m0 = some z) : ab_W l g cL_priceAfter RL 5 (some .int) [(0, 10, 13, 19), (0, 10, 17, 13)] false (d2 + 1) (.inl (some (.int z.1))) z.2 0 [(0, .ref l0), (1, .int l1), (2, .int l2), (3, .ref l3)] [] m0 := by
  unfold dd_L_priceAfter at h
  refine ru_aload_n (i := 3) dL_priceAfter_0 rfl rfl <| ru_iconst dL_priceAfter_1 kc_i_0 <| ru_aload_n (i := 0) dL_priceAfter_2 rfl rfl <| ru_iload_n (i := 1) dL_priceAfter_3 rfl rfl <| ru_iload_n (i := 2) dL_priceAfter_4 rfl rfl <| ?_
  obtain ⟨_, hrc, h⟩ := Option.bind_eq_some_iff.mp h
  obtain ⟨q1, hq1, h⟩ := Option.bind_eq_some_iff.mp h
  obtain ⟨v1, m1⟩ := q1
  cases v1 with
  | inl v1 =>
    dsimp only at h
    refine ru_callV (tm_X11_priceAfter hl0 (by omega) hq1) dL_priceAfter_5 rfl pm_L_77 mf_X11_priceAfter (ab_rcv_of hrc rfl) rfl rfl (Nat.le_of_ble_eq_true rfl) ?_
    refine ru_i2l dL_priceAfter_8 <| ?_
    refine ru_lastore h dL_priceAfter_9 ?_
    intro m2 h
    refine ru_goto (tgt := 21) dL_priceAfter_10 (by decide) <| ?_
    refine ru_iconst dL_priceAfter_21 kc_i_0 <| ?_
    cases h
    exact ru_ret (v := some (.int _)) ⟨_, rfl, rfl, dL_priceAfter_22⟩
  | inr v1 =>
    dsimp only at h
    rcases ab_iff h with ⟨hc, h⟩ | ⟨hc, h⟩
    · subst hc
      refine ru_callVH (i := 4) (len := 2) (tm_X11_priceAfter hl0 (by omega) hq1) dL_priceAfter_5 rfl pm_L_77 mf_X11_priceAfter (ab_rcv_of hrc rfl) rfl rfl (Nat.le_of_ble_eq_true rfl) [] _ (0, 10, 13, 19) rfl (fun z hz => by cases hz) (by decide) (by decide) pc_L_19 (Or.inr ⟨rfl, dL_priceAfter_13⟩) (by decide) ?_
      refine ru_iconst dL_priceAfter_15 kc_i_1 <| ?_
      cases h
      exact ru_ret (v := some (.int _)) ⟨_, rfl, rfl, dL_priceAfter_16⟩
    rcases ab_iff h with ⟨hc, h⟩ | ⟨hc, h⟩
    · subst hc
      refine ru_callVH (i := 4) (len := 2) (tm_X11_priceAfter hl0 (by omega) hq1) dL_priceAfter_5 rfl pm_L_77 mf_X11_priceAfter (ab_rcv_of hrc rfl) rfl rfl (Nat.le_of_ble_eq_true rfl) [(0, 10, 13, 19)] _ (0, 10, 17, 13) rfl (fun z hz => by
            simp only [List.mem_cons, List.not_mem_nil, or_false] at hz
            rcases hz with rfl
            · exact ⟨by decide, 0, by decide, by decide, by decide, pc_L_19⟩) (by decide) (by decide) pc_L_13 (Or.inr ⟨rfl, dL_priceAfter_17⟩) (by decide) ?_
      refine ru_iconst dL_priceAfter_19 kc_i_2 <| ?_
      cases h
      exact ru_ret (v := some (.int _)) ⟨_, rfl, rfl, dL_priceAfter_20⟩
    cases h
theorem tm_L_priceAfter {l : Launch} {g : ab_G} (hl0 : l.stackTraces = false) {d : Nat} (hd : 8 ≤ d) {l0 : Nat} {l1 : Int32} {l2 : Int32} {l3 : Nat} {m : ab_Mm} {z : (Int32 × ab_Mm)} (h : dd_L_priceAfter l0 l1 l2 l3 m = some z) : ab_Met l g yL_priceAfter cL_priceAfter 5 (some .int) [(0, 10, 13, 19), (0, 10, 17, 13)] d [.ref l0, .int l1, .int l2, .ref l3] m (.inl (some (.int z.1))) z.2 := by
  obtain ⟨d2, rfl⟩ : ∃ d2, d = d2 + 1 := ⟨d - 1, by omega⟩
  exact ab_ofH hl0 (by decide +kernel) (Nat.le_of_ble_eq_true rfl) rfl (te_L_priceAfter hl0 hd _ _ _ _ _ _ h)
theorem te_L_evictedAfter {l : Launch} {g : ab_G} (hl0 : l.stackTraces = false) {d2 : Nat} (hd : 8 ≤ d2 + 1)   (l0 : Nat) (l1 : Int32) (l2 : Nat) (m0 : ab_Mm) (z : (Int32 × ab_Mm)) (h : dd_L_evictedAfter  l0 l1 l2 m0 = some z) : ab_W l g cL_evictedAfter RL 4 (some .int) [(0, 9, 12, 19)] false (d2 + 1) (.inl (some (.int z.1))) z.2 0 [(0, .ref l0), (1, .int l1), (2, .ref l2)] [] m0 := by
  unfold dd_L_evictedAfter at h
  refine ru_aload_n (i := 2) dL_evictedAfter_0 rfl rfl <| ru_iconst dL_evictedAfter_1 kc_i_0 <| ru_aload_n (i := 0) dL_evictedAfter_2 rfl rfl <| ru_iload_n (i := 1) dL_evictedAfter_3 rfl rfl <| ?_
  obtain ⟨_, hrc, h⟩ := Option.bind_eq_some_iff.mp h
  obtain ⟨q1, hq1, h⟩ := Option.bind_eq_some_iff.mp h
  obtain ⟨v1, m1⟩ := q1
  cases v1 with
  | inl v1 =>
    dsimp only at h
    refine ru_callV (tm_X11_evictedAfter hl0 (by omega) hq1) dL_evictedAfter_4 rfl pm_L_80 mf_X11_evictedAfter (ab_rcv_of hrc rfl) rfl rfl (Nat.le_of_ble_eq_true rfl) ?_
    refine ru_i2l dL_evictedAfter_7 <| ?_
    refine ru_lastore h dL_evictedAfter_8 ?_
    intro m2 h
    refine ru_goto (tgt := 15) dL_evictedAfter_9 (by decide) <| ?_
    refine ru_iconst dL_evictedAfter_15 kc_i_0 <| ?_
    cases h
    exact ru_ret (v := some (.int _)) ⟨_, rfl, rfl, dL_evictedAfter_16⟩
  | inr v1 =>
    dsimp only at h
    rcases ab_iff h with ⟨hc, h⟩ | ⟨hc, h⟩
    · subst hc
      refine ru_callVH (i := 3) (len := 1) (tm_X11_evictedAfter hl0 (by omega) hq1) dL_evictedAfter_4 rfl pm_L_80 mf_X11_evictedAfter (ab_rcv_of hrc rfl) rfl rfl (Nat.le_of_ble_eq_true rfl) [] _ (0, 9, 12, 19) rfl (fun z hz => by cases hz) (by decide) (by decide) pc_L_19 (Or.inl ⟨rfl, 3, rfl, dL_evictedAfter_12⟩) (by decide) ?_
      refine ru_iconst dL_evictedAfter_13 kc_i_1 <| ?_
      cases h
      exact ru_ret (v := some (.int _)) ⟨_, rfl, rfl, dL_evictedAfter_14⟩
    cases h
theorem tm_L_evictedAfter {l : Launch} {g : ab_G} (hl0 : l.stackTraces = false) {d : Nat} (hd : 8 ≤ d) {l0 : Nat} {l1 : Int32} {l2 : Nat} {m : ab_Mm} {z : (Int32 × ab_Mm)} (h : dd_L_evictedAfter l0 l1 l2 m = some z) : ab_Met l g yL_evictedAfter cL_evictedAfter 4 (some .int) [(0, 9, 12, 19)] d [.ref l0, .int l1, .ref l2] m (.inl (some (.int z.1))) z.2 := by
  obtain ⟨d2, rfl⟩ : ∃ d2, d = d2 + 1 := ⟨d - 1, by omega⟩
  exact ab_ofH hl0 (by decide +kernel) (Nat.le_of_ble_eq_true rfl) rfl (te_L_evictedAfter hl0 hd _ _ _ _ _ h)
theorem te_L_pass {l : Launch} {g : ab_G} (hl0 : l.stackTraces = false) {d2 : Nat} (hd : 8 ≤ d2 + 1)   (l0 : Nat) (l1 : Int32) (l2 : Nat) (m0 : ab_Mm) (z : (Int32 × ab_Mm)) (h : dd_L_pass  l0 l1 l2 m0 = some z) : ab_W l g cL_pass RL 4 (some .int) [(0, 9, 12, 13), (0, 9, 15, 75)] false (d2 + 1) (.inl (some (.int z.1))) z.2 0 [(0, .ref l0), (1, .int l1), (2, .ref l2)] [] m0 := by
  unfold dd_L_pass at h
  refine ru_aload_n (i := 2) dL_pass_0 rfl rfl <| ru_iconst dL_pass_1 kc_i_0 <| ru_aload_n (i := 0) dL_pass_2 rfl rfl <| ru_iload_n (i := 1) dL_pass_3 rfl rfl <| ?_
  obtain ⟨_, hrc, h⟩ := Option.bind_eq_some_iff.mp h
  obtain ⟨q1, hq1, h⟩ := Option.bind_eq_some_iff.mp h
  obtain ⟨v1, m1⟩ := q1
  cases v1 with
  | inl v1 =>
    dsimp only at h
    refine ru_callV (tm_X11_pass hl0 (by omega) hq1) dL_pass_4 rfl pm_L_83 mf_X11_pass (ab_rcv_of hrc rfl) rfl rfl (Nat.le_of_ble_eq_true rfl) ?_
    refine ru_i2l dL_pass_7 <| ?_
    refine ru_lastore h dL_pass_8 ?_
    intro m2 h
    refine ru_goto (tgt := 18) dL_pass_9 (by decide) <| ?_
    refine ru_iconst dL_pass_18 kc_i_0 <| ?_
    cases h
    exact ru_ret (v := some (.int _)) ⟨_, rfl, rfl, dL_pass_19⟩
  | inr v1 =>
    dsimp only at h
    rcases ab_iff h with ⟨hc, h⟩ | ⟨hc, h⟩
    · subst hc
      refine ru_callVH (i := 3) (len := 1) (tm_X11_pass hl0 (by omega) hq1) dL_pass_4 rfl pm_L_83 mf_X11_pass (ab_rcv_of hrc rfl) rfl rfl (Nat.le_of_ble_eq_true rfl) [] _ (0, 9, 12, 13) rfl (fun z hz => by cases hz) (by decide) (by decide) pc_L_13 (Or.inl ⟨rfl, 3, rfl, dL_pass_12⟩) (by decide) ?_
      refine ru_iconst dL_pass_13 kc_i_1 <| ?_
      cases h
      exact ru_ret (v := some (.int _)) ⟨_, rfl, rfl, dL_pass_14⟩
    rcases ab_iff h with ⟨hc, h⟩ | ⟨hc, h⟩
    · subst hc
      refine ru_callVH (i := 3) (len := 1) (tm_X11_pass hl0 (by omega) hq1) dL_pass_4 rfl pm_L_83 mf_X11_pass (ab_rcv_of hrc rfl) rfl rfl (Nat.le_of_ble_eq_true rfl) [(0, 9, 12, 13)] _ (0, 9, 15, 75) rfl (fun z hz => by
            simp only [List.mem_cons, List.not_mem_nil, or_false] at hz
            rcases hz with rfl
            · exact ⟨by decide, 2, by decide, by decide, by decide, pc_L_13⟩) (by decide) (by decide) pc_L_75 (Or.inl ⟨rfl, 3, rfl, dL_pass_15⟩) (by decide) ?_
      refine ru_iconst dL_pass_16 kc_i_2 <| ?_
      cases h
      exact ru_ret (v := some (.int _)) ⟨_, rfl, rfl, dL_pass_17⟩
    cases h
theorem tm_L_pass {l : Launch} {g : ab_G} (hl0 : l.stackTraces = false) {d : Nat} (hd : 8 ≤ d) {l0 : Nat} {l1 : Int32} {l2 : Nat} {m : ab_Mm} {z : (Int32 × ab_Mm)} (h : dd_L_pass l0 l1 l2 m = some z) : ab_Met l g yL_pass cL_pass 4 (some .int) [(0, 9, 12, 13), (0, 9, 15, 75)] d [.ref l0, .int l1, .ref l2] m (.inl (some (.int z.1))) z.2 := by
  obtain ⟨d2, rfl⟩ : ∃ d2, d = d2 + 1 := ⟨d - 1, by omega⟩
  exact ab_ofH hl0 (by decide +kernel) (Nat.le_of_ble_eq_true rfl) rfl (te_L_pass hl0 hd _ _ _ _ _ h)
theorem te_L_launch {l : Launch} {g : ab_G} (hl0 : l.stackTraces = false) {d2 : Nat} (hd : 6 ≤ d2 + 1)   (l0 : Nat) (l1 : Int32) (l2 : Int32) (l3 : Nat) (m0 : ab_Mm) (z : (Int32 × ab_Mm)) (h : dd_L_launch  l0 l1 l2 l3 m0 = some z) : ab_W l g cL_launch RL 5 (some .int) [(0, 10, 13, 19), (0, 10, 17, 75)] false (d2 + 1) (.inl (some (.int z.1))) z.2 0 [(0, .ref l0), (1, .int l1), (2, .int l2), (3, .ref l3)] [] m0 := by
  unfold dd_L_launch at h
  refine ru_aload_n (i := 3) dL_launch_0 rfl rfl <| ru_iconst dL_launch_1 kc_i_0 <| ru_aload_n (i := 0) dL_launch_2 rfl rfl <| ru_iload_n (i := 1) dL_launch_3 rfl rfl <| ru_iload_n (i := 2) dL_launch_4 rfl rfl <| ?_
  obtain ⟨_, hrc, h⟩ := Option.bind_eq_some_iff.mp h
  obtain ⟨q1, hq1, h⟩ := Option.bind_eq_some_iff.mp h
  obtain ⟨v1, m1⟩ := q1
  cases v1 with
  | inl v1 =>
    dsimp only at h
    refine ru_callV (tm_X11_launch hl0 (by omega) hq1) dL_launch_5 rfl pm_L_86 mf_X11_launch (ab_rcv_of hrc rfl) rfl rfl (Nat.le_of_ble_eq_true rfl) ?_
    refine ru_i2l dL_launch_8 <| ?_
    refine ru_lastore h dL_launch_9 ?_
    intro m2 h
    refine ru_goto (tgt := 21) dL_launch_10 (by decide) <| ?_
    refine ru_iconst dL_launch_21 kc_i_0 <| ?_
    cases h
    exact ru_ret (v := some (.int _)) ⟨_, rfl, rfl, dL_launch_22⟩
  | inr v1 =>
    dsimp only at h
    rcases ab_iff h with ⟨hc, h⟩ | ⟨hc, h⟩
    · subst hc
      refine ru_callVH (i := 4) (len := 2) (tm_X11_launch hl0 (by omega) hq1) dL_launch_5 rfl pm_L_86 mf_X11_launch (ab_rcv_of hrc rfl) rfl rfl (Nat.le_of_ble_eq_true rfl) [] _ (0, 10, 13, 19) rfl (fun z hz => by cases hz) (by decide) (by decide) pc_L_19 (Or.inr ⟨rfl, dL_launch_13⟩) (by decide) ?_
      refine ru_iconst dL_launch_15 kc_i_1 <| ?_
      cases h
      exact ru_ret (v := some (.int _)) ⟨_, rfl, rfl, dL_launch_16⟩
    rcases ab_iff h with ⟨hc, h⟩ | ⟨hc, h⟩
    · subst hc
      refine ru_callVH (i := 4) (len := 2) (tm_X11_launch hl0 (by omega) hq1) dL_launch_5 rfl pm_L_86 mf_X11_launch (ab_rcv_of hrc rfl) rfl rfl (Nat.le_of_ble_eq_true rfl) [(0, 10, 13, 19)] _ (0, 10, 17, 75) rfl (fun z hz => by
            simp only [List.mem_cons, List.not_mem_nil, or_false] at hz
            rcases hz with rfl
            · exact ⟨by decide, 0, by decide, by decide, by decide, pc_L_19⟩) (by decide) (by decide) pc_L_75 (Or.inr ⟨rfl, dL_launch_17⟩) (by decide) ?_
      refine ru_iconst dL_launch_19 kc_i_2 <| ?_
      cases h
      exact ru_ret (v := some (.int _)) ⟨_, rfl, rfl, dL_launch_20⟩
    cases h
theorem tm_L_launch {l : Launch} {g : ab_G} (hl0 : l.stackTraces = false) {d : Nat} (hd : 6 ≤ d) {l0 : Nat} {l1 : Int32} {l2 : Int32} {l3 : Nat} {m : ab_Mm} {z : (Int32 × ab_Mm)} (h : dd_L_launch l0 l1 l2 l3 m = some z) : ab_Met l g yL_launch cL_launch 5 (some .int) [(0, 10, 13, 19), (0, 10, 17, 75)] d [.ref l0, .int l1, .int l2, .ref l3] m (.inl (some (.int z.1))) z.2 := by
  obtain ⟨d2, rfl⟩ : ∃ d2, d = d2 + 1 := ⟨d - 1, by omega⟩
  exact ab_ofH hl0 (by decide +kernel) (Nat.le_of_ble_eq_true rfl) rfl (te_L_launch hl0 hd _ _ _ _ _ _ h)
theorem te_L_bid {l : Launch} {g : ab_G} (hl0 : l.stackTraces = false) {d2 : Nat} (hd : 5 ≤ d2 + 1)   (l0 : Nat) (l1 : Int32) (l2 : Int32) (l3 : Int32) (l4 : Nat) (m0 : ab_Mm) (z : (Int32 × ab_Mm)) (h : dd_L_bid  l0 l1 l2 l3 l4 m0 = some z) : ab_W l g cL_bid RL 6 (some .int) [(0, 12, 15, 19), (0, 12, 19, 13), (0, 12, 23, 75)] false (d2 + 1) (.inl (some (.int z.1))) z.2 0 [(0, .ref l0), (1, .int l1), (2, .int l2), (3, .int l3), (4, .ref l4)] [] m0 := by
  unfold dd_L_bid at h
  refine ru_aload dL_bid_0 rfl <| ru_iconst dL_bid_2 kc_i_0 <| ru_aload_n (i := 0) dL_bid_3 rfl rfl <| ru_iload_n (i := 1) dL_bid_4 rfl rfl <| ru_iload_n (i := 2) dL_bid_5 rfl rfl <| ru_iload_n (i := 3) dL_bid_6 rfl rfl <| ?_
  obtain ⟨_, hrc, h⟩ := Option.bind_eq_some_iff.mp h
  obtain ⟨q1, hq1, h⟩ := Option.bind_eq_some_iff.mp h
  obtain ⟨v1, m1⟩ := q1
  cases v1 with
  | inl v1 =>
    dsimp only at h
    refine ru_callV (tm_X11_bid hl0 (by omega) hq1) dL_bid_7 rfl pm_L_89 mf_X11_bid (ab_rcv_of hrc rfl) rfl rfl (Nat.le_of_ble_eq_true rfl) ?_
    refine ru_i2l dL_bid_10 <| ?_
    refine ru_lastore h dL_bid_11 ?_
    intro m2 h
    refine ru_goto (tgt := 27) dL_bid_12 (by decide) <| ?_
    refine ru_iconst dL_bid_27 kc_i_0 <| ?_
    cases h
    exact ru_ret (v := some (.int _)) ⟨_, rfl, rfl, dL_bid_28⟩
  | inr v1 =>
    dsimp only at h
    rcases ab_iff h with ⟨hc, h⟩ | ⟨hc, h⟩
    · subst hc
      refine ru_callVH (i := 5) (len := 2) (tm_X11_bid hl0 (by omega) hq1) dL_bid_7 rfl pm_L_89 mf_X11_bid (ab_rcv_of hrc rfl) rfl rfl (Nat.le_of_ble_eq_true rfl) [] _ (0, 12, 15, 19) rfl (fun z hz => by cases hz) (by decide) (by decide) pc_L_19 (Or.inr ⟨rfl, dL_bid_15⟩) (by decide) ?_
      refine ru_iconst dL_bid_17 kc_i_1 <| ?_
      cases h
      exact ru_ret (v := some (.int _)) ⟨_, rfl, rfl, dL_bid_18⟩
    rcases ab_iff h with ⟨hc, h⟩ | ⟨hc, h⟩
    · subst hc
      refine ru_callVH (i := 5) (len := 2) (tm_X11_bid hl0 (by omega) hq1) dL_bid_7 rfl pm_L_89 mf_X11_bid (ab_rcv_of hrc rfl) rfl rfl (Nat.le_of_ble_eq_true rfl) [(0, 12, 15, 19)] _ (0, 12, 19, 13) rfl (fun z hz => by
            simp only [List.mem_cons, List.not_mem_nil, or_false] at hz
            rcases hz with rfl
            · exact ⟨by decide, 0, by decide, by decide, by decide, pc_L_19⟩) (by decide) (by decide) pc_L_13 (Or.inr ⟨rfl, dL_bid_19⟩) (by decide) ?_
      refine ru_iconst dL_bid_21 kc_i_2 <| ?_
      cases h
      exact ru_ret (v := some (.int _)) ⟨_, rfl, rfl, dL_bid_22⟩
    rcases ab_iff h with ⟨hc, h⟩ | ⟨hc, h⟩
    · subst hc
      refine ru_callVH (i := 5) (len := 2) (tm_X11_bid hl0 (by omega) hq1) dL_bid_7 rfl pm_L_89 mf_X11_bid (ab_rcv_of hrc rfl) rfl rfl (Nat.le_of_ble_eq_true rfl) [(0, 12, 15, 19), (0, 12, 19, 13)] _ (0, 12, 23, 75) rfl (fun z hz => by
            simp only [List.mem_cons, List.not_mem_nil, or_false] at hz
            rcases hz with rfl | rfl
            · exact ⟨by decide, 0, by decide, by decide, by decide, pc_L_19⟩
            · exact ⟨by decide, 2, by decide, by decide, by decide, pc_L_13⟩) (by decide) (by decide) pc_L_75 (Or.inr ⟨rfl, dL_bid_23⟩) (by decide) ?_
      refine ru_iconst dL_bid_25 kc_i_3 <| ?_
      cases h
      exact ru_ret (v := some (.int _)) ⟨_, rfl, rfl, dL_bid_26⟩
    cases h
