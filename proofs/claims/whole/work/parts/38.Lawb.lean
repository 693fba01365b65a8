/-! ===== the methods keep to these functions (by program) ===== -/
theorem tm_L_bid {l : Launch} {g : ab_G} (hl0 : l.stackTraces = false) {d : Nat} (hd : 5 ≤ d) {l0 : Nat} {l1 : Int32} {l2 : Int32} {l3 : Int32} {l4 : Nat} {m : ab_Mm} {z : (Int32 × ab_Mm)} (h : dd_L_bid l0 l1 l2 l3 l4 m = some z) : ab_Met l g yL_bid cL_bid 6 (some .int) [(0, 12, 15, 19), (0, 12, 19, 13), (0, 12, 23, 75)] d [.ref l0, .int l1, .int l2, .int l3, .ref l4] m (.inl (some (.int z.1))) z.2 := by
  obtain ⟨d2, rfl⟩ : ∃ d2, d = d2 + 1 := ⟨d - 1, by omega⟩
  exact ab_ofH hl0 (by decide +kernel) (Nat.le_of_ble_eq_true rfl) rfl (te_L_bid hl0 hd _ _ _ _ _ _ _ h)
theorem te_L_withdraw {l : Launch} {g : ab_G} (hl0 : l.stackTraces = false) {d2 : Nat} (hd : 5 ≤ d2 + 1)   (l0 : Nat) (l1 : Int32) (l2 : Nat) (m0 : ab_Mm) (z : (Int32 × ab_Mm)) (h : dd_L_withdraw  l0 l1 l2 m0 = some z) : ab_W l g cL_withdraw RL 4 (some .int) [(0, 9, 12, 19)] false (d2 + 1) (.inl (some (.int z.1))) z.2 0 [(0, .ref l0), (1, .int l1), (2, .ref l2)] [] m0 := by
  unfold dd_L_withdraw at h
  refine ru_aload_n (i := 2) dL_withdraw_0 rfl rfl <| ru_iconst dL_withdraw_1 kc_i_0 <| ru_aload_n (i := 0) dL_withdraw_2 rfl rfl <| ru_iload_n (i := 1) dL_withdraw_3 rfl rfl <| ?_
  obtain ⟨_, hrc, h⟩ := Option.bind_eq_some_iff.mp h
  obtain ⟨q1, hq1, h⟩ := Option.bind_eq_some_iff.mp h
  obtain ⟨v1, m1⟩ := q1
  cases v1 with
  | inl v1 =>
    dsimp only at h
    refine ru_callV (tm_X11_withdraw hl0 (by omega) hq1) dL_withdraw_4 rfl pm_L_93 mf_X11_withdraw (ab_rcv_of hrc rfl) rfl rfl (Nat.le_of_ble_eq_true rfl) ?_
    refine ru_i2l dL_withdraw_7 <| ?_
    refine ru_lastore h dL_withdraw_8 ?_
    intro m2 h
    refine ru_goto (tgt := 15) dL_withdraw_9 (by decide) <| ?_
    refine ru_iconst dL_withdraw_15 kc_i_0 <| ?_
    cases h
    exact ru_ret (v := some (.int _)) ⟨_, rfl, rfl, dL_withdraw_16⟩
  | inr v1 =>
    dsimp only at h
    rcases ab_iff h with ⟨hc, h⟩ | ⟨hc, h⟩
    · subst hc
      refine ru_callVH (i := 3) (len := 1) (tm_X11_withdraw hl0 (by omega) hq1) dL_withdraw_4 rfl pm_L_93 mf_X11_withdraw (ab_rcv_of hrc rfl) rfl rfl (Nat.le_of_ble_eq_true rfl) [] _ (0, 9, 12, 19) rfl (fun z hz => by cases hz) (by decide) (by decide) pc_L_19 (Or.inl ⟨rfl, 3, rfl, dL_withdraw_12⟩) (by decide) ?_
      refine ru_iconst dL_withdraw_13 kc_i_1 <| ?_
      cases h
      exact ru_ret (v := some (.int _)) ⟨_, rfl, rfl, dL_withdraw_14⟩
    cases h
theorem tm_L_withdraw {l : Launch} {g : ab_G} (hl0 : l.stackTraces = false) {d : Nat} (hd : 5 ≤ d) {l0 : Nat} {l1 : Int32} {l2 : Nat} {m : ab_Mm} {z : (Int32 × ab_Mm)} (h : dd_L_withdraw l0 l1 l2 m = some z) : ab_Met l g yL_withdraw cL_withdraw 4 (some .int) [(0, 9, 12, 19)] d [.ref l0, .int l1, .ref l2] m (.inl (some (.int z.1))) z.2 := by
  obtain ⟨d2, rfl⟩ : ∃ d2, d = d2 + 1 := ⟨d - 1, by omega⟩
  exact ab_ofH hl0 (by decide +kernel) (Nat.le_of_ble_eq_true rfl) rfl (te_L_withdraw hl0 hd _ _ _ _ _ h)
theorem te_L_stop {l : Launch} {g : ab_G} (hl0 : l.stackTraces = false) {d2 : Nat} (hd : 6 ≤ d2 + 1)   (l0 : Nat) (l1 : Int32) (l2 : Nat) (m0 : ab_Mm) (z : (Int32 × ab_Mm)) (h : dd_L_stop  l0 l1 l2 m0 = some z) : ab_W l g cL_stop RL 4 (some .int) [(0, 9, 12, 19)] false (d2 + 1) (.inl (some (.int z.1))) z.2 0 [(0, .ref l0), (1, .int l1), (2, .ref l2)] [] m0 := by
  unfold dd_L_stop at h
  refine ru_aload_n (i := 2) dL_stop_0 rfl rfl <| ru_iconst dL_stop_1 kc_i_0 <| ru_aload_n (i := 0) dL_stop_2 rfl rfl <| ru_iload_n (i := 1) dL_stop_3 rfl rfl <| ?_
  obtain ⟨_, hrc, h⟩ := Option.bind_eq_some_iff.mp h
  obtain ⟨q1, hq1, h⟩ := Option.bind_eq_some_iff.mp h
  obtain ⟨v1, m1⟩ := q1
  cases v1 with
  | inl v1 =>
    dsimp only at h
    refine ru_callV (tm_X11_stop hl0 (by omega) hq1) dL_stop_4 rfl pm_L_96 mf_X11_stop (ab_rcv_of hrc rfl) rfl rfl (Nat.le_of_ble_eq_true rfl) ?_
    refine ru_i2l dL_stop_7 <| ?_
    refine ru_lastore h dL_stop_8 ?_
    intro m2 h
    refine ru_goto (tgt := 15) dL_stop_9 (by decide) <| ?_
    refine ru_iconst dL_stop_15 kc_i_0 <| ?_
    cases h
    exact ru_ret (v := some (.int _)) ⟨_, rfl, rfl, dL_stop_16⟩
  | inr v1 =>
    dsimp only at h
    rcases ab_iff h with ⟨hc, h⟩ | ⟨hc, h⟩
    · subst hc
      refine ru_callVH (i := 3) (len := 1) (tm_X11_stop hl0 (by omega) hq1) dL_stop_4 rfl pm_L_96 mf_X11_stop (ab_rcv_of hrc rfl) rfl rfl (Nat.le_of_ble_eq_true rfl) [] _ (0, 9, 12, 19) rfl (fun z hz => by cases hz) (by decide) (by decide) pc_L_19 (Or.inl ⟨rfl, 3, rfl, dL_stop_12⟩) (by decide) ?_
      refine ru_iconst dL_stop_13 kc_i_1 <| ?_
      cases h
      exact ru_ret (v := some (.int _)) ⟨_, rfl, rfl, dL_stop_14⟩
    cases h
theorem tm_L_stop {l : Launch} {g : ab_G} (hl0 : l.stackTraces = false) {d : Nat} (hd : 6 ≤ d) {l0 : Nat} {l1 : Int32} {l2 : Nat} {m : ab_Mm} {z : (Int32 × ab_Mm)} (h : dd_L_stop l0 l1 l2 m = some z) : ab_Met l g yL_stop cL_stop 4 (some .int) [(0, 9, 12, 19)] d [.ref l0, .int l1, .ref l2] m (.inl (some (.int z.1))) z.2 := by
  obtain ⟨d2, rfl⟩ : ∃ d2, d = d2 + 1 := ⟨d - 1, by omega⟩
  exact ab_ofH hl0 (by decide +kernel) (Nat.le_of_ble_eq_true rfl) rfl (te_L_stop hl0 hd _ _ _ _ _ h)
theorem te_L_evict {l : Launch} {g : ab_G} (hl0 : l.stackTraces = false) {d2 : Nat} (hd : 5 ≤ d2 + 1)   (l0 : Nat) (l1 : Int32) (l2 : Nat) (m0 : ab_Mm) (z : (Int32 × ab_Mm)) (h : dd_L_evict  l0 l1 l2 m0 = some z) : ab_W l g cL_evict RL 4 (some .int) [(0, 9, 12, 19), (0, 9, 15, 75)] false (d2 + 1) (.inl (some (.int z.1))) z.2 0 [(0, .ref l0), (1, .int l1), (2, .ref l2)] [] m0 := by
  unfold dd_L_evict at h
  refine ru_aload_n (i := 2) dL_evict_0 rfl rfl <| ru_iconst dL_evict_1 kc_i_0 <| ru_aload_n (i := 0) dL_evict_2 rfl rfl <| ru_iload_n (i := 1) dL_evict_3 rfl rfl <| ?_
  obtain ⟨_, hrc, h⟩ := Option.bind_eq_some_iff.mp h
  obtain ⟨q1, hq1, h⟩ := Option.bind_eq_some_iff.mp h
  obtain ⟨v1, m1⟩ := q1
  cases v1 with
  | inl v1 =>
    dsimp only at h
    refine ru_callV (tm_X11_evict hl0 (by omega) hq1) dL_evict_4 rfl pm_L_99 mf_X11_evict (ab_rcv_of hrc rfl) rfl rfl (Nat.le_of_ble_eq_true rfl) ?_
    refine ru_i2l dL_evict_7 <| ?_
    refine ru_lastore h dL_evict_8 ?_
    intro m2 h
    refine ru_goto (tgt := 18) dL_evict_9 (by decide) <| ?_
    refine ru_iconst dL_evict_18 kc_i_0 <| ?_
    cases h
    exact ru_ret (v := some (.int _)) ⟨_, rfl, rfl, dL_evict_19⟩
  | inr v1 =>
    dsimp only at h
    rcases ab_iff h with ⟨hc, h⟩ | ⟨hc, h⟩
    · subst hc
      refine ru_callVH (i := 3) (len := 1) (tm_X11_evict hl0 (by omega) hq1) dL_evict_4 rfl pm_L_99 mf_X11_evict (ab_rcv_of hrc rfl) rfl rfl (Nat.le_of_ble_eq_true rfl) [] _ (0, 9, 12, 19) rfl (fun z hz => by cases hz) (by decide) (by decide) pc_L_19 (Or.inl ⟨rfl, 3, rfl, dL_evict_12⟩) (by decide) ?_
      refine ru_iconst dL_evict_13 kc_i_1 <| ?_
      cases h
      exact ru_ret (v := some (.int _)) ⟨_, rfl, rfl, dL_evict_14⟩
    rcases ab_iff h with ⟨hc, h⟩ | ⟨hc, h⟩
    · subst hc
      refine ru_callVH (i := 3) (len := 1) (tm_X11_evict hl0 (by omega) hq1) dL_evict_4 rfl pm_L_99 mf_X11_evict (ab_rcv_of hrc rfl) rfl rfl (Nat.le_of_ble_eq_true rfl) [(0, 9, 12, 19)] _ (0, 9, 15, 75) rfl (fun z hz => by
            simp only [List.mem_cons, List.not_mem_nil, or_false] at hz
            rcases hz with rfl
            · exact ⟨by decide, 0, by decide, by decide, by decide, pc_L_19⟩) (by decide) (by decide) pc_L_75 (Or.inl ⟨rfl, 3, rfl, dL_evict_15⟩) (by decide) ?_
      refine ru_iconst dL_evict_16 kc_i_2 <| ?_
      cases h
      exact ru_ret (v := some (.int _)) ⟨_, rfl, rfl, dL_evict_17⟩
    cases h
theorem tm_L_evict {l : Launch} {g : ab_G} (hl0 : l.stackTraces = false) {d : Nat} (hd : 5 ≤ d) {l0 : Nat} {l1 : Int32} {l2 : Nat} {m : ab_Mm} {z : (Int32 × ab_Mm)} (h : dd_L_evict l0 l1 l2 m = some z) : ab_Met l g yL_evict cL_evict 4 (some .int) [(0, 9, 12, 19), (0, 9, 15, 75)] d [.ref l0, .int l1, .ref l2] m (.inl (some (.int z.1))) z.2 := by
  obtain ⟨d2, rfl⟩ : ∃ d2, d = d2 + 1 := ⟨d - 1, by omega⟩
  exact ab_ofH hl0 (by decide +kernel) (Nat.le_of_ble_eq_true rfl) rfl (te_L_evict hl0 hd _ _ _ _ _ h)
theorem te_L_migrate {l : Launch} {g : ab_G} (hl0 : l.stackTraces = false) {d2 : Nat} (hd : 7 ≤ d2 + 1)   (l0 : Nat) (l1 : Int32) (l2 : Int32) (l3 : Nat) (m0 : ab_Mm) (z : (Int32 × ab_Mm)) (h : dd_L_migrate  l0 l1 l2 l3 m0 = some z) : ab_W l g cL_migrate RL 5 (some .int) [(0, 10, 13, 19), (0, 10, 17, 75)] false (d2 + 1) (.inl (some (.int z.1))) z.2 0 [(0, .ref l0), (1, .int l1), (2, .int l2), (3, .ref l3)] [] m0 := by
  unfold dd_L_migrate at h
  refine ru_aload_n (i := 3) dL_migrate_0 rfl rfl <| ru_iconst dL_migrate_1 kc_i_0 <| ru_aload_n (i := 0) dL_migrate_2 rfl rfl <| ru_iload_n (i := 1) dL_migrate_3 rfl rfl <| ru_iload_n (i := 2) dL_migrate_4 rfl rfl <| ?_
  obtain ⟨_, hrc, h⟩ := Option.bind_eq_some_iff.mp h
  obtain ⟨q1, hq1, h⟩ := Option.bind_eq_some_iff.mp h
  obtain ⟨v1, m1⟩ := q1
  cases v1 with
  | inl v1 =>
    dsimp only at h
    refine ru_callV (tm_X11_migrate hl0 (by omega) hq1) dL_migrate_5 rfl pm_L_102 mf_X11_migrate (ab_rcv_of hrc rfl) rfl rfl (Nat.le_of_ble_eq_true rfl) ?_
    refine ru_i2l dL_migrate_8 <| ?_
    refine ru_lastore h dL_migrate_9 ?_
    intro m2 h
    refine ru_goto (tgt := 21) dL_migrate_10 (by decide) <| ?_
    refine ru_iconst dL_migrate_21 kc_i_0 <| ?_
    cases h
    exact ru_ret (v := some (.int _)) ⟨_, rfl, rfl, dL_migrate_22⟩
  | inr v1 =>
    dsimp only at h
    rcases ab_iff h with ⟨hc, h⟩ | ⟨hc, h⟩
    · subst hc
      refine ru_callVH (i := 4) (len := 2) (tm_X11_migrate hl0 (by omega) hq1) dL_migrate_5 rfl pm_L_102 mf_X11_migrate (ab_rcv_of hrc rfl) rfl rfl (Nat.le_of_ble_eq_true rfl) [] _ (0, 10, 13, 19) rfl (fun z hz => by cases hz) (by decide) (by decide) pc_L_19 (Or.inr ⟨rfl, dL_migrate_13⟩) (by decide) ?_
      refine ru_iconst dL_migrate_15 kc_i_1 <| ?_
      cases h
      exact ru_ret (v := some (.int _)) ⟨_, rfl, rfl, dL_migrate_16⟩
    rcases ab_iff h with ⟨hc, h⟩ | ⟨hc, h⟩
    · subst hc
      refine ru_callVH (i := 4) (len := 2) (tm_X11_migrate hl0 (by omega) hq1) dL_migrate_5 rfl pm_L_102 mf_X11_migrate (ab_rcv_of hrc rfl) rfl rfl (Nat.le_of_ble_eq_true rfl) [(0, 10, 13, 19)] _ (0, 10, 17, 75) rfl (fun z hz => by
            simp only [List.mem_cons, List.not_mem_nil, or_false] at hz
            rcases hz with rfl
            · exact ⟨by decide, 0, by decide, by decide, by decide, pc_L_19⟩) (by decide) (by decide) pc_L_75 (Or.inr ⟨rfl, dL_migrate_17⟩) (by decide) ?_
      refine ru_iconst dL_migrate_19 kc_i_2 <| ?_
      cases h
      exact ru_ret (v := some (.int _)) ⟨_, rfl, rfl, dL_migrate_20⟩
    cases h
theorem tm_L_migrate {l : Launch} {g : ab_G} (hl0 : l.stackTraces = false) {d : Nat} (hd : 7 ≤ d) {l0 : Nat} {l1 : Int32} {l2 : Int32} {l3 : Nat} {m : ab_Mm} {z : (Int32 × ab_Mm)} (h : dd_L_migrate l0 l1 l2 l3 m = some z) : ab_Met l g yL_migrate cL_migrate 5 (some .int) [(0, 10, 13, 19), (0, 10, 17, 75)] d [.ref l0, .int l1, .int l2, .ref l3] m (.inl (some (.int z.1))) z.2 := by
  obtain ⟨d2, rfl⟩ : ∃ d2, d = d2 + 1 := ⟨d - 1, by omega⟩
  exact ab_ofH hl0 (by decide +kernel) (Nat.le_of_ble_eq_true rfl) rfl (te_L_migrate hl0 hd _ _ _ _ _ _ h)
theorem te_L_drain {l : Launch} {g : ab_G} (hl0 : l.stackTraces = false) {d2 : Nat} (hd : 36 ≤ d2 + 1)   (l0 : Nat) (l1 : Int32) (l2 : Nat) (m0 : ab_Mm) (z : (Int32 × ab_Mm)) (h : dd_L_drain  l0 l1 l2 m0 = some z) : ab_W l g cL_drain RL 4 (some .int) [(0, 9, 12, 19), (0, 9, 15, 75)] false (d2 + 1) (.inl (some (.int z.1))) z.2 0 [(0, .ref l0), (1, .int l1), (2, .ref l2)] [] m0 := by
  unfold dd_L_drain at h
  refine ru_aload_n (i := 2) dL_drain_0 rfl rfl <| ru_iconst dL_drain_1 kc_i_0 <| ru_aload_n (i := 0) dL_drain_2 rfl rfl <| ru_iload_n (i := 1) dL_drain_3 rfl rfl <| ?_
  obtain ⟨_, hrc, h⟩ := Option.bind_eq_some_iff.mp h
  obtain ⟨q1, hq1, h⟩ := Option.bind_eq_some_iff.mp h
  obtain ⟨v1, m1⟩ := q1
  cases v1 with
  | inl v1 =>
    dsimp only at h
    refine ru_callV (tm_X11_drain hl0 (by omega) hq1) dL_drain_4 rfl pm_L_105 mf_X11_drain (ab_rcv_of hrc rfl) rfl rfl (Nat.le_of_ble_eq_true rfl) ?_
    refine ru_i2l dL_drain_7 <| ?_
    refine ru_lastore h dL_drain_8 ?_
    intro m2 h
    refine ru_goto (tgt := 18) dL_drain_9 (by decide) <| ?_
    refine ru_iconst dL_drain_18 kc_i_0 <| ?_
    cases h
    exact ru_ret (v := some (.int _)) ⟨_, rfl, rfl, dL_drain_19⟩
  | inr v1 =>
    dsimp only at h
    rcases ab_iff h with ⟨hc, h⟩ | ⟨hc, h⟩
    · subst hc
      refine ru_callVH (i := 3) (len := 1) (tm_X11_drain hl0 (by omega) hq1) dL_drain_4 rfl pm_L_105 mf_X11_drain (ab_rcv_of hrc rfl) rfl rfl (Nat.le_of_ble_eq_true rfl) [] _ (0, 9, 12, 19) rfl (fun z hz => by cases hz) (by decide) (by decide) pc_L_19 (Or.inl ⟨rfl, 3, rfl, dL_drain_12⟩) (by decide) ?_
      refine ru_iconst dL_drain_13 kc_i_1 <| ?_
      cases h
      exact ru_ret (v := some (.int _)) ⟨_, rfl, rfl, dL_drain_14⟩
    rcases ab_iff h with ⟨hc, h⟩ | ⟨hc, h⟩
    · subst hc
      refine ru_callVH (i := 3) (len := 1) (tm_X11_drain hl0 (by omega) hq1) dL_drain_4 rfl pm_L_105 mf_X11_drain (ab_rcv_of hrc rfl) rfl rfl (Nat.le_of_ble_eq_true rfl) [(0, 9, 12, 19)] _ (0, 9, 15, 75) rfl (fun z hz => by
            simp only [List.mem_cons, List.not_mem_nil, or_false] at hz
            rcases hz with rfl
            · exact ⟨by decide, 0, by decide, by decide, by decide, pc_L_19⟩) (by decide) (by decide) pc_L_75 (Or.inl ⟨rfl, 3, rfl, dL_drain_15⟩) (by decide) ?_
      refine ru_iconst dL_drain_16 kc_i_2 <| ?_
      cases h
      exact ru_ret (v := some (.int _)) ⟨_, rfl, rfl, dL_drain_17⟩
    cases h
theorem tm_L_drain {l : Launch} {g : ab_G} (hl0 : l.stackTraces = false) {d : Nat} (hd : 36 ≤ d) {l0 : Nat} {l1 : Int32} {l2 : Nat} {m : ab_Mm} {z : (Int32 × ab_Mm)} (h : dd_L_drain l0 l1 l2 m = some z) : ab_Met l g yL_drain cL_drain 4 (some .int) [(0, 9, 12, 19), (0, 9, 15, 75)] d [.ref l0, .int l1, .ref l2] m (.inl (some (.int z.1))) z.2 := by
  obtain ⟨d2, rfl⟩ : ∃ d2, d = d2 + 1 := ⟨d - 1, by omega⟩
  exact ab_ofH hl0 (by decide +kernel) (Nat.le_of_ble_eq_true rfl) rfl (te_L_drain hl0 hd _ _ _ _ _ h)
theorem tbb_L_saveSnapshot_15 {l : Launch} {g : ab_G} (hl0 : l.stackTraces = false) {d2 : Nat} (hd : 5 ≤ d2 + 1)   (s0 : Nat) (s1 : Int32) (s2 : Int64) (m0 : ab_Mm) (z : (Int32 × ab_Mm)) (h : bb_L_saveSnapshot_15  s0 s1 s2 m0 = some z) : ab_W l g cL_saveSnapshot RL 4 (some .int) [(0, 16, 19, 19)] false (d2 + 1) (.inl (some (.int z.1))) z.2 15 [] [.long s2, .int s1, .ref s0] m0 := by
  unfold bb_L_saveSnapshot_15 at h
  refine ru_lastore h dL_saveSnapshot_15 ?_
  intro m1 h
  refine ru_goto (tgt := 22) dL_saveSnapshot_16 (by decide) <| ?_
  refine ru_iconst dL_saveSnapshot_22 kc_i_0 <| ?_
  cases h
  exact ru_ret (v := some (.int _)) ⟨_, rfl, rfl, dL_saveSnapshot_23⟩
theorem te_L_saveSnapshot {l : Launch} {g : ab_G} (hl0 : l.stackTraces = false) {d2 : Nat} (hd : 5 ≤ d2 + 1)   (l0 : Nat) (l1 : Int32) (l2 : Nat) (m0 : ab_Mm) (z : (Int32 × ab_Mm)) (h : dd_L_saveSnapshot  l0 l1 l2 m0 = some z) : ab_W l g cL_saveSnapshot RL 4 (some .int) [(0, 16, 19, 19)] false (d2 + 1) (.inl (some (.int z.1))) z.2 0 [(0, .ref l0), (1, .int l1), (2, .ref l2)] [] m0 := by
  unfold dd_L_saveSnapshot at h
  refine ru_aload_n (i := 2) dL_saveSnapshot_0 rfl rfl <| ru_iconst dL_saveSnapshot_1 kc_i_0 <| ru_aload_n (i := 0) dL_saveSnapshot_2 rfl rfl <| ru_iload_n (i := 1) dL_saveSnapshot_3 rfl rfl <| ?_
  obtain ⟨_, hrc, h⟩ := Option.bind_eq_some_iff.mp h
  obtain ⟨q1, hq1, h⟩ := Option.bind_eq_some_iff.mp h
  obtain ⟨v1, m1⟩ := q1
  cases v1 with
  | inl v1 =>
    dsimp only at h
    refine ru_callV (tm_X11_saveSnapshot hl0 (by omega) hq1) dL_saveSnapshot_4 rfl pm_L_108 mf_X11_saveSnapshot (ab_rcv_of hrc rfl) rfl rfl (Nat.le_of_ble_eq_true rfl) ?_
    refine ru_if_eq (tgt := 14) dL_saveSnapshot_7 (by decide) (fun hc => ?_) (fun hc => ?_)
    · rw [if_pos hc] at h
      refine ru_lconst dL_saveSnapshot_14 (v := 0) rfl <| ?_
      exact ru_pick [] rfl (tbb_L_saveSnapshot_15 hl0 hd   _ _ _ _ _ h)
    · rw [if_neg hc] at h
      refine ru_lconst dL_saveSnapshot_10 (v := 1) rfl <| ru_goto (tgt := 15) dL_saveSnapshot_11 (by decide) <| ?_
      exact ru_pick [] rfl (tbb_L_saveSnapshot_15 hl0 hd   _ _ _ _ _ h)
  | inr v1 =>
    dsimp only at h
    rcases ab_iff h with ⟨hc, h⟩ | ⟨hc, h⟩
    · subst hc
      refine ru_callVH (i := 3) (len := 1) (tm_X11_saveSnapshot hl0 (by omega) hq1) dL_saveSnapshot_4 rfl pm_L_108 mf_X11_saveSnapshot (ab_rcv_of hrc rfl) rfl rfl (Nat.le_of_ble_eq_true rfl) [] _ (0, 16, 19, 19) rfl (fun z hz => by cases hz) (by decide) (by decide) pc_L_19 (Or.inl ⟨rfl, 3, rfl, dL_saveSnapshot_19⟩) (by decide) ?_
      refine ru_iconst dL_saveSnapshot_20 kc_i_1 <| ?_
      cases h
      exact ru_ret (v := some (.int _)) ⟨_, rfl, rfl, dL_saveSnapshot_21⟩
    cases h
theorem tm_L_saveSnapshot {l : Launch} {g : ab_G} (hl0 : l.stackTraces = false) {d : Nat} (hd : 5 ≤ d) {l0 : Nat} {l1 : Int32} {l2 : Nat} {m : ab_Mm} {z : (Int32 × ab_Mm)} (h : dd_L_saveSnapshot l0 l1 l2 m = some z) : ab_Met l g yL_saveSnapshot cL_saveSnapshot 4 (some .int) [(0, 16, 19, 19)] d [.ref l0, .int l1, .ref l2] m (.inl (some (.int z.1))) z.2 := by
  obtain ⟨d2, rfl⟩ : ∃ d2, d = d2 + 1 := ⟨d - 1, by omega⟩
  exact ab_ofH hl0 (by decide +kernel) (Nat.le_of_ble_eq_true rfl) rfl (te_L_saveSnapshot hl0 hd _ _ _ _ _ h)
theorem te_L_restoreSnapshot {l : Launch} {g : ab_G} (hl0 : l.stackTraces = false) {d2 : Nat} (hd : 5 ≤ d2 + 1)   (l0 : Nat) (l1 : Int32) (l2 : Nat) (m0 : ab_Mm) (z : (Int32 × ab_Mm)) (h : dd_L_restoreSnapshot  l0 l1 l2 m0 = some z) : ab_W l g cL_restoreSnapshot RL 4 (some .int) [(0, 9, 12, 19), (0, 9, 15, 75)] false (d2 + 1) (.inl (some (.int z.1))) z.2 0 [(0, .ref l0), (1, .int l1), (2, .ref l2)] [] m0 := by
  unfold dd_L_restoreSnapshot at h
  refine ru_aload_n (i := 2) dL_restoreSnapshot_0 rfl rfl <| ru_iconst dL_restoreSnapshot_1 kc_i_0 <| ru_aload_n (i := 0) dL_restoreSnapshot_2 rfl rfl <| ru_iload_n (i := 1) dL_restoreSnapshot_3 rfl rfl <| ?_
  obtain ⟨_, hrc, h⟩ := Option.bind_eq_some_iff.mp h
  obtain ⟨q1, hq1, h⟩ := Option.bind_eq_some_iff.mp h
  obtain ⟨v1, m1⟩ := q1
  cases v1 with
  | inl v1 =>
    dsimp only at h
    refine ru_callV (tm_X11_restoreSnapshot hl0 (by omega) hq1) dL_restoreSnapshot_4 rfl pm_L_111 mf_X11_restoreSnapshot (ab_rcv_of hrc rfl) rfl rfl (Nat.le_of_ble_eq_true rfl) ?_
    refine ru_i2l dL_restoreSnapshot_7 <| ?_
    refine ru_lastore h dL_restoreSnapshot_8 ?_
    intro m2 h
    refine ru_goto (tgt := 18) dL_restoreSnapshot_9 (by decide) <| ?_
    refine ru_iconst dL_restoreSnapshot_18 kc_i_0 <| ?_
    cases h
    exact ru_ret (v := some (.int _)) ⟨_, rfl, rfl, dL_restoreSnapshot_19⟩
  | inr v1 =>
    dsimp only at h
    rcases ab_iff h with ⟨hc, h⟩ | ⟨hc, h⟩
    · subst hc
      refine ru_callVH (i := 3) (len := 1) (tm_X11_restoreSnapshot hl0 (by omega) hq1) dL_restoreSnapshot_4 rfl pm_L_111 mf_X11_restoreSnapshot (ab_rcv_of hrc rfl) rfl rfl (Nat.le_of_ble_eq_true rfl) [] _ (0, 9, 12, 19) rfl (fun z hz => by cases hz) (by decide) (by decide) pc_L_19 (Or.inl ⟨rfl, 3, rfl, dL_restoreSnapshot_12⟩) (by decide) ?_
      refine ru_iconst dL_restoreSnapshot_13 kc_i_1 <| ?_
      cases h
      exact ru_ret (v := some (.int _)) ⟨_, rfl, rfl, dL_restoreSnapshot_14⟩
    rcases ab_iff h with ⟨hc, h⟩ | ⟨hc, h⟩
    · subst hc
      refine ru_callVH (i := 3) (len := 1) (tm_X11_restoreSnapshot hl0 (by omega) hq1) dL_restoreSnapshot_4 rfl pm_L_111 mf_X11_restoreSnapshot (ab_rcv_of hrc rfl) rfl rfl (Nat.le_of_ble_eq_true rfl) [(0, 9, 12, 19)] _ (0, 9, 15, 75) rfl (fun z hz => by
            simp only [List.mem_cons, List.not_mem_nil, or_false] at hz
            rcases hz with rfl
            · exact ⟨by decide, 0, by decide, by decide, by decide, pc_L_19⟩) (by decide) (by decide) pc_L_75 (Or.inl ⟨rfl, 3, rfl, dL_restoreSnapshot_15⟩) (by decide) ?_
      refine ru_iconst dL_restoreSnapshot_16 kc_i_2 <| ?_
      cases h
      exact ru_ret (v := some (.int _)) ⟨_, rfl, rfl, dL_restoreSnapshot_17⟩
    cases h
theorem tm_L_restoreSnapshot {l : Launch} {g : ab_G} (hl0 : l.stackTraces = false) {d : Nat} (hd : 5 ≤ d) {l0 : Nat} {l1 : Int32} {l2 : Nat} {m : ab_Mm} {z : (Int32 × ab_Mm)} (h : dd_L_restoreSnapshot l0 l1 l2 m = some z) : ab_Met l g yL_restoreSnapshot cL_restoreSnapshot 4 (some .int) [(0, 9, 12, 19), (0, 9, 15, 75)] d [.ref l0, .int l1, .ref l2] m (.inl (some (.int z.1))) z.2 := by
  obtain ⟨d2, rfl⟩ : ∃ d2, d = d2 + 1 := ⟨d - 1, by omega⟩
  exact ab_ofH hl0 (by decide +kernel) (Nat.le_of_ble_eq_true rfl) rfl (te_L_restoreSnapshot hl0 hd _ _ _ _ _ h)
theorem tbb_L_law_2330 {l : Launch} {g : ab_G} {hh : List (Nat × Nat × Nat × Nat)} (hl0 : l.stackTraces = false) {d2 : Nat} (hd : 42 ≤ d2 + 1) (r23 : Nat → Nat → Nat → Int32 → ab_Mm → Option (Int32 × ab_Mm)) (hr23 : ∀ (l1 : Nat) (l2 : Nat) (l3 : Nat) (l4 : Int32) (m : ab_Mm) (z : (Int32 × ab_Mm)), r23 l1 l2 l3 l4 m = some z → ab_W l g cL_law RL 9 (some .boolean) hh false (d2 + 1) (.inl (some (.int z.1))) z.2 23 [(0, .ref 2000), (1, .ref l1), (2, .ref l2), (3, .ref l3), (4, .int l4)] [] m) (l1 : Nat) (l2 : Nat) (l3 : Nat) (l4 : Int32) (m0 : ab_Mm) (z : (Int32 × ab_Mm)) (h : bb_L_law_2330 g.2.2.2.2.1 g.2.2.2.2.2 r23 l1 l2 l3 l4 m0 = some z) : ab_W l g cL_law RL 9 (some .boolean) hh false (d2 + 1) (.inl (some (.int z.1))) z.2 2330 [(0, .ref 2000), (1, .ref l1), (2, .ref l2), (3, .ref l3), (4, .int l4)] [] m0 := by
  unfold bb_L_law_2330 at h
  refine ru_iinc dL_law_2330 (by decide) rfl (ab_inc kc_i_6) <| ru_goto (tgt := 23) dL_law_2333 (by decide) <| ?_
  exact ru_pick [0, 1, 2, 3, 4] rfl (hr23 _ _ _ _ _ _ h)
theorem tbb_L_law_2327 {l : Launch} {g : ab_G} {hh : List (Nat × Nat × Nat × Nat)} (hl0 : l.stackTraces = false) {d2 : Nat} (hd : 42 ≤ d2 + 1) (r23 : Nat → Nat → Nat → Int32 → ab_Mm → Option (Int32 × ab_Mm)) (hr23 : ∀ (l1 : Nat) (l2 : Nat) (l3 : Nat) (l4 : Int32) (m : ab_Mm) (z : (Int32 × ab_Mm)), r23 l1 l2 l3 l4 m = some z → ab_W l g cL_law RL 9 (some .boolean) hh false (d2 + 1) (.inl (some (.int z.1))) z.2 23 [(0, .ref 2000), (1, .ref l1), (2, .ref l2), (3, .ref l3), (4, .int l4)] [] m) (l1 : Nat) (l2 : Nat) (l3 : Nat) (l4 : Int32) (m0 : ab_Mm) (z : (Int32 × ab_Mm)) (h : bb_L_law_2327 g.2.2.2.2.1 g.2.2.2.2.2 r23 l1 l2 l3 l4 m0 = some z) : ab_W l g cL_law RL 9 (some .boolean) hh false (d2 + 1) (.inl (some (.int z.1))) z.2 2327 [(0, .ref 2000), (1, .ref l1), (2, .ref l2), (3, .ref l3), (4, .int l4)] [] m0 := by
  unfold bb_L_law_2327 at h
  refine ru_goto (tgt := 2330) dL_law_2327 (by decide) <| ?_
  exact ru_pick [0, 1, 2, 3, 4] rfl (tbb_L_law_2330 hl0 hd _ hr23 _ _ _ _ _ _ h)
theorem tbb_L_law_2271 {l : Launch} {g : ab_G} {hh : List (Nat × Nat × Nat × Nat)} (hl0 : l.stackTraces = false) {d2 : Nat} (hd : 42 ≤ d2 + 1) (r23 : Nat → Nat → Nat → Int32 → ab_Mm → Option (Int32 × ab_Mm)) (hr23 : ∀ (l1 : Nat) (l2 : Nat) (l3 : Nat) (l4 : Int32) (m : ab_Mm) (z : (Int32 × ab_Mm)), r23 l1 l2 l3 l4 m = some z → ab_W l g cL_law RL 9 (some .boolean) hh false (d2 + 1) (.inl (some (.int z.1))) z.2 23 [(0, .ref 2000), (1, .ref l1), (2, .ref l2), (3, .ref l3), (4, .int l4)] [] m) (l1 : Nat) (l2 : Nat) (l3 : Nat) (l4 : Int32) (m0 : ab_Mm) (z : (Int32 × ab_Mm)) (h : bb_L_law_2271 g.2.2.2.2.1 g.2.2.2.2.2 r23 l1 l2 l3 l4 m0 = some z) : ab_W l g cL_law RL 9 (some .boolean) hh false (d2 + 1) (.inl (some (.int z.1))) z.2 2271 [(0, .ref 2000), (1, .ref l1), (2, .ref l2), (3, .ref l3), (4, .int l4)] [] m0 := by
  unfold bb_L_law_2271 at h
  refine ru_goto (tgt := 2330) dL_law_2271 (by decide) <| ?_
  exact ru_pick [0, 1, 2, 3, 4] rfl (tbb_L_law_2330 hl0 hd _ hr23 _ _ _ _ _ _ h)
theorem tbb_L_law_2265 {l : Launch} {g : ab_G} {hh : List (Nat × Nat × Nat × Nat)} (hl0 : l.stackTraces = false) {d2 : Nat} (hd : 42 ≤ d2 + 1) (r23 : Nat → Nat → Nat → Int32 → ab_Mm → Option (Int32 × ab_Mm)) (hr23 : ∀ (l1 : Nat) (l2 : Nat) (l3 : Nat) (l4 : Int32) (m : ab_Mm) (z : (Int32 × ab_Mm)), r23 l1 l2 l3 l4 m = some z → ab_W l g cL_law RL 9 (some .boolean) hh false (d2 + 1) (.inl (some (.int z.1))) z.2 23 [(0, .ref 2000), (1, .ref l1), (2, .ref l2), (3, .ref l3), (4, .int l4)] [] m) (l1 : Nat) (l2 : Nat) (l3 : Nat) (l4 : Int32) (s0 : Int64) (s1 : Int64) (m0 : ab_Mm) (z : (Int32 × ab_Mm)) (h : bb_L_law_2265 g.2.2.2.2.1 g.2.2.2.2.2 r23 l1 l2 l3 l4 s0 s1 m0 = some z) : ab_W l g cL_law RL 9 (some .boolean) hh false (d2 + 1) (.inl (some (.int z.1))) z.2 2265 [(0, .ref 2000), (1, .ref l1), (2, .ref l2), (3, .ref l3), (4, .int l4)] [.long s1, .long s0] m0 := by
  unfold bb_L_law_2265 at h
  refine ru_lcmp dL_law_2265 <| ?_
  refine ru_if_eq (tgt := 2271) dL_law_2266 (by decide) (fun hc => ?_) (fun hc => ?_)
  · rw [if_pos hc] at h
    exact ru_pick [0, 1, 2, 3, 4] rfl (tbb_L_law_2271 hl0 hd _ hr23 _ _ _ _ _ _ h)
  · rw [if_neg hc] at h
    refine ru_iconst dL_law_2269 kc_i_0 <| ?_
    cases h
    exact ru_ret (v := some (.int _)) ⟨_, rfl, ab_nz0, dL_law_2270⟩
theorem tbb_L_law_2195 {l : Launch} {g : ab_G} {hh : List (Nat × Nat × Nat × Nat)} (hl0 : l.stackTraces = false) {d2 : Nat} (hd : 42 ≤ d2 + 1) (r23 : Nat → Nat → Nat → Int32 → ab_Mm → Option (Int32 × ab_Mm)) (hr23 : ∀ (l1 : Nat) (l2 : Nat) (l3 : Nat) (l4 : Int32) (m : ab_Mm) (z : (Int32 × ab_Mm)), r23 l1 l2 l3 l4 m = some z → ab_W l g cL_law RL 9 (some .boolean) hh false (d2 + 1) (.inl (some (.int z.1))) z.2 23 [(0, .ref 2000), (1, .ref l1), (2, .ref l2), (3, .ref l3), (4, .int l4)] [] m) (l1 : Nat) (l2 : Nat) (l3 : Nat) (l4 : Int32) (m0 : ab_Mm) (z : (Int32 × ab_Mm)) (h : bb_L_law_2195 g.2.2.2.2.1 g.2.2.2.2.2 r23 l1 l2 l3 l4 m0 = some z) : ab_W l g cL_law RL 9 (some .boolean) hh false (d2 + 1) (.inl (some (.int z.1))) z.2 2195 [(0, .ref 2000), (1, .ref l1), (2, .ref l2), (3, .ref l3), (4, .int l4)] [] m0 := by
  unfold bb_L_law_2195 at h
  refine ru_goto (tgt := 2330) dL_law_2195 (by decide) <| ?_
  exact ru_pick [0, 1, 2, 3, 4] rfl (tbb_L_law_2330 hl0 hd _ hr23 _ _ _ _ _ _ h)
theorem tbb_L_law_2139 {l : Launch} {g : ab_G} {hh : List (Nat × Nat × Nat × Nat)} (hl0 : l.stackTraces = false) {d2 : Nat} (hd : 42 ≤ d2 + 1) (r23 : Nat → Nat → Nat → Int32 → ab_Mm → Option (Int32 × ab_Mm)) (hr23 : ∀ (l1 : Nat) (l2 : Nat) (l3 : Nat) (l4 : Int32) (m : ab_Mm) (z : (Int32 × ab_Mm)), r23 l1 l2 l3 l4 m = some z → ab_W l g cL_law RL 9 (some .boolean) hh false (d2 + 1) (.inl (some (.int z.1))) z.2 23 [(0, .ref 2000), (1, .ref l1), (2, .ref l2), (3, .ref l3), (4, .int l4)] [] m) (l1 : Nat) (l2 : Nat) (l3 : Nat) (l4 : Int32) (m0 : ab_Mm) (z : (Int32 × ab_Mm)) (h : bb_L_law_2139 g.2.2.2.2.1 g.2.2.2.2.2 r23 l1 l2 l3 l4 m0 = some z) : ab_W l g cL_law RL 9 (some .boolean) hh false (d2 + 1) (.inl (some (.int z.1))) z.2 2139 [(0, .ref 2000), (1, .ref l1), (2, .ref l2), (3, .ref l3), (4, .int l4)] [] m0 := by
  unfold bb_L_law_2139 at h
  refine ru_goto (tgt := 2330) dL_law_2139 (by decide) <| ?_
  exact ru_pick [0, 1, 2, 3, 4] rfl (tbb_L_law_2330 hl0 hd _ hr23 _ _ _ _ _ _ h)
theorem tbb_L_law_2071 {l : Launch} {g : ab_G} {hh : List (Nat × Nat × Nat × Nat)} (hl0 : l.stackTraces = false) {d2 : Nat} (hd : 42 ≤ d2 + 1) (r23 : Nat → Nat → Nat → Int32 → ab_Mm → Option (Int32 × ab_Mm)) (hr23 : ∀ (l1 : Nat) (l2 : Nat) (l3 : Nat) (l4 : Int32) (m : ab_Mm) (z : (Int32 × ab_Mm)), r23 l1 l2 l3 l4 m = some z → ab_W l g cL_law RL 9 (some .boolean) hh false (d2 + 1) (.inl (some (.int z.1))) z.2 23 [(0, .ref 2000), (1, .ref l1), (2, .ref l2), (3, .ref l3), (4, .int l4)] [] m) (l1 : Nat) (l2 : Nat) (l3 : Nat) (l4 : Int32) (m0 : ab_Mm) (z : (Int32 × ab_Mm)) (h : bb_L_law_2071 g.2.2.2.2.1 g.2.2.2.2.2 r23 l1 l2 l3 l4 m0 = some z) : ab_W l g cL_law RL 9 (some .boolean) hh false (d2 + 1) (.inl (some (.int z.1))) z.2 2071 [(0, .ref 2000), (1, .ref l1), (2, .ref l2), (3, .ref l3), (4, .int l4)] [] m0 := by
  unfold bb_L_law_2071 at h
  refine ru_goto (tgt := 2330) dL_law_2071 (by decide) <| ?_
  exact ru_pick [0, 1, 2, 3, 4] rfl (tbb_L_law_2330 hl0 hd _ hr23 _ _ _ _ _ _ h)
theorem tbb_L_law_2015 {l : Launch} {g : ab_G} {hh : List (Nat × Nat × Nat × Nat)} (hl0 : l.stackTraces = false) {d2 : Nat} (hd : 42 ≤ d2 + 1) (r23 : Nat → Nat → Nat → Int32 → ab_Mm → Option (Int32 × ab_Mm)) (hr23 : ∀ (l1 : Nat) (l2 : Nat) (l3 : Nat) (l4 : Int32) (m : ab_Mm) (z : (Int32 × ab_Mm)), r23 l1 l2 l3 l4 m = some z → ab_W l g cL_law RL 9 (some .boolean) hh false (d2 + 1) (.inl (some (.int z.1))) z.2 23 [(0, .ref 2000), (1, .ref l1), (2, .ref l2), (3, .ref l3), (4, .int l4)] [] m) (l1 : Nat) (l2 : Nat) (l3 : Nat) (l4 : Int32) (m0 : ab_Mm) (z : (Int32 × ab_Mm)) (h : bb_L_law_2015 g.2.2.2.2.1 g.2.2.2.2.2 r23 l1 l2 l3 l4 m0 = some z) : ab_W l g cL_law RL 9 (some .boolean) hh false (d2 + 1) (.inl (some (.int z.1))) z.2 2015 [(0, .ref 2000), (1, .ref l1), (2, .ref l2), (3, .ref l3), (4, .int l4)] [] m0 := by
  unfold bb_L_law_2015 at h
  refine ru_goto (tgt := 2330) dL_law_2015 (by decide) <| ?_
  exact ru_pick [0, 1, 2, 3, 4] rfl (tbb_L_law_2330 hl0 hd _ hr23 _ _ _ _ _ _ h)
theorem tbb_L_law_1959 {l : Launch} {g : ab_G} {hh : List (Nat × Nat × Nat × Nat)} (hl0 : l.stackTraces = false) {d2 : Nat} (hd : 42 ≤ d2 + 1) (r23 : Nat → Nat → Nat → Int32 → ab_Mm → Option (Int32 × ab_Mm)) (hr23 : ∀ (l1 : Nat) (l2 : Nat) (l3 : Nat) (l4 : Int32) (m : ab_Mm) (z : (Int32 × ab_Mm)), r23 l1 l2 l3 l4 m = some z → ab_W l g cL_law RL 9 (some .boolean) hh false (d2 + 1) (.inl (some (.int z.1))) z.2 23 [(0, .ref 2000), (1, .ref l1), (2, .ref l2), (3, .ref l3), (4, .int l4)] [] m) (l1 : Nat) (l2 : Nat) (l3 : Nat) (l4 : Int32) (m0 : ab_Mm) (z : (Int32 × ab_Mm)) (h : bb_L_law_1959 g.2.2.2.2.1 g.2.2.2.2.2 r23 l1 l2 l3 l4 m0 = some z) : ab_W l g cL_law RL 9 (some .boolean) hh false (d2 + 1) (.inl (some (.int z.1))) z.2 1959 [(0, .ref 2000), (1, .ref l1), (2, .ref l2), (3, .ref l3), (4, .int l4)] [] m0 := by
  unfold bb_L_law_1959 at h
  refine ru_goto (tgt := 2330) dL_law_1959 (by decide) <| ?_
  exact ru_pick [0, 1, 2, 3, 4] rfl (tbb_L_law_2330 hl0 hd _ hr23 _ _ _ _ _ _ h)
theorem tbb_L_law_1903 {l : Launch} {g : ab_G} {hh : List (Nat × Nat × Nat × Nat)} (hl0 : l.stackTraces = false) {d2 : Nat} (hd : 42 ≤ d2 + 1) (r23 : Nat → Nat → Nat → Int32 → ab_Mm → Option (Int32 × ab_Mm)) (hr23 : ∀ (l1 : Nat) (l2 : Nat) (l3 : Nat) (l4 : Int32) (m : ab_Mm) (z : (Int32 × ab_Mm)), r23 l1 l2 l3 l4 m = some z → ab_W l g cL_law RL 9 (some .boolean) hh false (d2 + 1) (.inl (some (.int z.1))) z.2 23 [(0, .ref 2000), (1, .ref l1), (2, .ref l2), (3, .ref l3), (4, .int l4)] [] m) (l1 : Nat) (l2 : Nat) (l3 : Nat) (l4 : Int32) (m0 : ab_Mm) (z : (Int32 × ab_Mm)) (h : bb_L_law_1903 g.2.2.2.2.1 g.2.2.2.2.2 r23 l1 l2 l3 l4 m0 = some z) : ab_W l g cL_law RL 9 (some .boolean) hh false (d2 + 1) (.inl (some (.int z.1))) z.2 1903 [(0, .ref 2000), (1, .ref l1), (2, .ref l2), (3, .ref l3), (4, .int l4)] [] m0 := by
  unfold bb_L_law_1903 at h
  refine ru_goto (tgt := 2330) dL_law_1903 (by decide) <| ?_
  exact ru_pick [0, 1, 2, 3, 4] rfl (tbb_L_law_2330 hl0 hd _ hr23 _ _ _ _ _ _ h)
theorem tbb_L_law_1823 {l : Launch} {g : ab_G} {hh : List (Nat × Nat × Nat × Nat)} (hl0 : l.stackTraces = false) {d2 : Nat} (hd : 42 ≤ d2 + 1) (r23 : Nat → Nat → Nat → Int32 → ab_Mm → Option (Int32 × ab_Mm)) (hr23 : ∀ (l1 : Nat) (l2 : Nat) (l3 : Nat) (l4 : Int32) (m : ab_Mm) (z : (Int32 × ab_Mm)), r23 l1 l2 l3 l4 m = some z → ab_W l g cL_law RL 9 (some .boolean) hh false (d2 + 1) (.inl (some (.int z.1))) z.2 23 [(0, .ref 2000), (1, .ref l1), (2, .ref l2), (3, .ref l3), (4, .int l4)] [] m) (l1 : Nat) (l2 : Nat) (l3 : Nat) (l4 : Int32) (m0 : ab_Mm) (z : (Int32 × ab_Mm)) (h : bb_L_law_1823 g.2.2.2.2.1 g.2.2.2.2.2 r23 l1 l2 l3 l4 m0 = some z) : ab_W l g cL_law RL 9 (some .boolean) hh false (d2 + 1) (.inl (some (.int z.1))) z.2 1823 [(0, .ref 2000), (1, .ref l1), (2, .ref l2), (3, .ref l3), (4, .int l4)] [] m0 := by
  unfold bb_L_law_1823 at h
  refine ru_goto (tgt := 2330) dL_law_1823 (by decide) <| ?_
  exact ru_pick [0, 1, 2, 3, 4] rfl (tbb_L_law_2330 hl0 hd _ hr23 _ _ _ _ _ _ h)
theorem tbb_L_law_1755 {l : Launch} {g : ab_G} {hh : List (Nat × Nat × Nat × Nat)} (hl0 : l.stackTraces = false) {d2 : Nat} (hd : 42 ≤ d2 + 1) (r23 : Nat → Nat → Nat → Int32 → ab_Mm → Option (Int32 × ab_Mm)) (hr23 : ∀ (l1 : Nat) (l2 : Nat) (l3 : Nat) (l4 : Int32) (m : ab_Mm) (z : (Int32 × ab_Mm)), r23 l1 l2 l3 l4 m = some z → ab_W l g cL_law RL 9 (some .boolean) hh false (d2 + 1) (.inl (some (.int z.1))) z.2 23 [(0, .ref 2000), (1, .ref l1), (2, .ref l2), (3, .ref l3), (4, .int l4)] [] m) (l1 : Nat) (l2 : Nat) (l3 : Nat) (l4 : Int32) (m0 : ab_Mm) (z : (Int32 × ab_Mm)) (h : bb_L_law_1755 g.2.2.2.2.1 g.2.2.2.2.2 r23 l1 l2 l3 l4 m0 = some z) : ab_W l g cL_law RL 9 (some .boolean) hh false (d2 + 1) (.inl (some (.int z.1))) z.2 1755 [(0, .ref 2000), (1, .ref l1), (2, .ref l2), (3, .ref l3), (4, .int l4)] [] m0 := by
  unfold bb_L_law_1755 at h
  refine ru_goto (tgt := 2330) dL_law_1755 (by decide) <| ?_
  exact ru_pick [0, 1, 2, 3, 4] rfl (tbb_L_law_2330 hl0 hd _ hr23 _ _ _ _ _ _ h)
theorem tbb_L_law_1699 {l : Launch} {g : ab_G} {hh : List (Nat × Nat × Nat × Nat)} (hl0 : l.stackTraces = false) {d2 : Nat} (hd : 42 ≤ d2 + 1) (r23 : Nat → Nat → Nat → Int32 → ab_Mm → Option (Int32 × ab_Mm)) (hr23 : ∀ (l1 : Nat) (l2 : Nat) (l3 : Nat) (l4 : Int32) (m : ab_Mm) (z : (Int32 × ab_Mm)), r23 l1 l2 l3 l4 m = some z → ab_W l g cL_law RL 9 (some .boolean) hh false (d2 + 1) (.inl (some (.int z.1))) z.2 23 [(0, .ref 2000), (1, .ref l1), (2, .ref l2), (3, .ref l3), (4, .int l4)] [] m) (l1 : Nat) (l2 : Nat) (l3 : Nat) (l4 : Int32) (m0 : ab_Mm) (z : (Int32 × ab_Mm)) (h : bb_L_law_1699 g.2.2.2.2.1 g.2.2.2.2.2 r23 l1 l2 l3 l4 m0 = some z) : ab_W l g cL_law RL 9 (some .boolean) hh false (d2 + 1) (.inl (some (.int z.1))) z.2 1699 [(0, .ref 2000), (1, .ref l1), (2, .ref l2), (3, .ref l3), (4, .int l4)] [] m0 := by
  unfold bb_L_law_1699 at h
  refine ru_goto (tgt := 2330) dL_law_1699 (by decide) <| ?_
  exact ru_pick [0, 1, 2, 3, 4] rfl (tbb_L_law_2330 hl0 hd _ hr23 _ _ _ _ _ _ h)
theorem tbb_L_law_1643 {l : Launch} {g : ab_G} {hh : List (Nat × Nat × Nat × Nat)} (hl0 : l.stackTraces = false) {d2 : Nat} (hd : 42 ≤ d2 + 1) (r23 : Nat → Nat → Nat → Int32 → ab_Mm → Option (Int32 × ab_Mm)) (hr23 : ∀ (l1 : Nat) (l2 : Nat) (l3 : Nat) (l4 : Int32) (m : ab_Mm) (z : (Int32 × ab_Mm)), r23 l1 l2 l3 l4 m = some z → ab_W l g cL_law RL 9 (some .boolean) hh false (d2 + 1) (.inl (some (.int z.1))) z.2 23 [(0, .ref 2000), (1, .ref l1), (2, .ref l2), (3, .ref l3), (4, .int l4)] [] m) (l1 : Nat) (l2 : Nat) (l3 : Nat) (l4 : Int32) (m0 : ab_Mm) (z : (Int32 × ab_Mm)) (h : bb_L_law_1643 g.2.2.2.2.1 g.2.2.2.2.2 r23 l1 l2 l3 l4 m0 = some z) : ab_W l g cL_law RL 9 (some .boolean) hh false (d2 + 1) (.inl (some (.int z.1))) z.2 1643 [(0, .ref 2000), (1, .ref l1), (2, .ref l2), (3, .ref l3), (4, .int l4)] [] m0 := by
  unfold bb_L_law_1643 at h
  refine ru_goto (tgt := 2330) dL_law_1643 (by decide) <| ?_
  exact ru_pick [0, 1, 2, 3, 4] rfl (tbb_L_law_2330 hl0 hd _ hr23 _ _ _ _ _ _ h)
theorem tbb_L_law_1575 {l : Launch} {g : ab_G} {hh : List (Nat × Nat × Nat × Nat)} (hl0 : l.stackTraces = false) {d2 : Nat} (hd : 42 ≤ d2 + 1) (r23 : Nat → Nat → Nat → Int32 → ab_Mm → Option (Int32 × ab_Mm)) (hr23 : ∀ (l1 : Nat) (l2 : Nat) (l3 : Nat) (l4 : Int32) (m : ab_Mm) (z : (Int32 × ab_Mm)), r23 l1 l2 l3 l4 m = some z → ab_W l g cL_law RL 9 (some .boolean) hh false (d2 + 1) (.inl (some (.int z.1))) z.2 23 [(0, .ref 2000), (1, .ref l1), (2, .ref l2), (3, .ref l3), (4, .int l4)] [] m) (l1 : Nat) (l2 : Nat) (l3 : Nat) (l4 : Int32) (m0 : ab_Mm) (z : (Int32 × ab_Mm)) (h : bb_L_law_1575 g.2.2.2.2.1 g.2.2.2.2.2 r23 l1 l2 l3 l4 m0 = some z) : ab_W l g cL_law RL 9 (some .boolean) hh false (d2 + 1) (.inl (some (.int z.1))) z.2 1575 [(0, .ref 2000), (1, .ref l1), (2, .ref l2), (3, .ref l3), (4, .int l4)] [] m0 := by
  unfold bb_L_law_1575 at h
  refine ru_goto (tgt := 2330) dL_law_1575 (by decide) <| ?_
  exact ru_pick [0, 1, 2, 3, 4] rfl (tbb_L_law_2330 hl0 hd _ hr23 _ _ _ _ _ _ h)
theorem tbb_L_law_1507 {l : Launch} {g : ab_G} {hh : List (Nat × Nat × Nat × Nat)} (hl0 : l.stackTraces = false) {d2 : Nat} (hd : 42 ≤ d2 + 1) (r23 : Nat → Nat → Nat → Int32 → ab_Mm → Option (Int32 × ab_Mm)) (hr23 : ∀ (l1 : Nat) (l2 : Nat) (l3 : Nat) (l4 : Int32) (m : ab_Mm) (z : (Int32 × ab_Mm)), r23 l1 l2 l3 l4 m = some z → ab_W l g cL_law RL 9 (some .boolean) hh false (d2 + 1) (.inl (some (.int z.1))) z.2 23 [(0, .ref 2000), (1, .ref l1), (2, .ref l2), (3, .ref l3), (4, .int l4)] [] m) (l1 : Nat) (l2 : Nat) (l3 : Nat) (l4 : Int32) (m0 : ab_Mm) (z : (Int32 × ab_Mm)) (h : bb_L_law_1507 g.2.2.2.2.1 g.2.2.2.2.2 r23 l1 l2 l3 l4 m0 = some z) : ab_W l g cL_law RL 9 (some .boolean) hh false (d2 + 1) (.inl (some (.int z.1))) z.2 1507 [(0, .ref 2000), (1, .ref l1), (2, .ref l2), (3, .ref l3), (4, .int l4)] [] m0 := by
  unfold bb_L_law_1507 at h
  refine ru_goto (tgt := 2330) dL_law_1507 (by decide) <| ?_
  exact ru_pick [0, 1, 2, 3, 4] rfl (tbb_L_law_2330 hl0 hd _ hr23 _ _ _ _ _ _ h)
theorem tbb_L_law_1451 {l : Launch} {g : ab_G} {hh : List (Nat × Nat × Nat × Nat)} (hl0 : l.stackTraces = false) {d2 : Nat} (hd : 42 ≤ d2 + 1) (r23 : Nat → Nat → Nat → Int32 → ab_Mm → Option (Int32 × ab_Mm)) (hr23 : ∀ (l1 : Nat) (l2 : Nat) (l3 : Nat) (l4 : Int32) (m : ab_Mm) (z : (Int32 × ab_Mm)), r23 l1 l2 l3 l4 m = some z → ab_W l g cL_law RL 9 (some .boolean) hh false (d2 + 1) (.inl (some (.int z.1))) z.2 23 [(0, .ref 2000), (1, .ref l1), (2, .ref l2), (3, .ref l3), (4, .int l4)] [] m) (l1 : Nat) (l2 : Nat) (l3 : Nat) (l4 : Int32) (m0 : ab_Mm) (z : (Int32 × ab_Mm)) (h : bb_L_law_1451 g.2.2.2.2.1 g.2.2.2.2.2 r23 l1 l2 l3 l4 m0 = some z) : ab_W l g cL_law RL 9 (some .boolean) hh false (d2 + 1) (.inl (some (.int z.1))) z.2 1451 [(0, .ref 2000), (1, .ref l1), (2, .ref l2), (3, .ref l3), (4, .int l4)] [] m0 := by
  unfold bb_L_law_1451 at h
  refine ru_goto (tgt := 2330) dL_law_1451 (by decide) <| ?_
  exact ru_pick [0, 1, 2, 3, 4] rfl (tbb_L_law_2330 hl0 hd _ hr23 _ _ _ _ _ _ h)
theorem tbb_L_law_1370 {l : Launch} {g : ab_G} {hh : List (Nat × Nat × Nat × Nat)} (hl0 : l.stackTraces = false) {d2 : Nat} (hd : 42 ≤ d2 + 1) (r23 : Nat → Nat → Nat → Int32 → ab_Mm → Option (Int32 × ab_Mm)) (hr23 : ∀ (l1 : Nat) (l2 : Nat) (l3 : Nat) (l4 : Int32) (m : ab_Mm) (z : (Int32 × ab_Mm)), r23 l1 l2 l3 l4 m = some z → ab_W l g cL_law RL 9 (some .boolean) hh false (d2 + 1) (.inl (some (.int z.1))) z.2 23 [(0, .ref 2000), (1, .ref l1), (2, .ref l2), (3, .ref l3), (4, .int l4)] [] m) (l1 : Nat) (l2 : Nat) (l3 : Nat) (l4 : Int32) (m0 : ab_Mm) (z : (Int32 × ab_Mm)) (h : bb_L_law_1370 g.2.2.2.2.1 g.2.2.2.2.2 r23 l1 l2 l3 l4 m0 = some z) : ab_W l g cL_law RL 9 (some .boolean) hh false (d2 + 1) (.inl (some (.int z.1))) z.2 1370 [(0, .ref 2000), (1, .ref l1), (2, .ref l2), (3, .ref l3), (4, .int l4)] [] m0 := by
  unfold bb_L_law_1370 at h
  refine ru_goto (tgt := 2330) dL_law_1370 (by decide) <| ?_
  exact ru_pick [0, 1, 2, 3, 4] rfl (tbb_L_law_2330 hl0 hd _ hr23 _ _ _ _ _ _ h)
theorem tbb_L_law_1364 {l : Launch} {g : ab_G} {hh : List (Nat × Nat × Nat × Nat)} (hl0 : l.stackTraces = false) {d2 : Nat} (hd : 42 ≤ d2 + 1) (r23 : Nat → Nat → Nat → Int32 → ab_Mm → Option (Int32 × ab_Mm)) (hr23 : ∀ (l1 : Nat) (l2 : Nat) (l3 : Nat) (l4 : Int32) (m : ab_Mm) (z : (Int32 × ab_Mm)), r23 l1 l2 l3 l4 m = some z → ab_W l g cL_law RL 9 (some .boolean) hh false (d2 + 1) (.inl (some (.int z.1))) z.2 23 [(0, .ref 2000), (1, .ref l1), (2, .ref l2), (3, .ref l3), (4, .int l4)] [] m) (l1 : Nat) (l2 : Nat) (l3 : Nat) (l4 : Int32) (s0 : Int64) (s1 : Int64) (m0 : ab_Mm) (z : (Int32 × ab_Mm)) (h : bb_L_law_1364 g.2.2.2.2.1 g.2.2.2.2.2 r23 l1 l2 l3 l4 s0 s1 m0 = some z) : ab_W l g cL_law RL 9 (some .boolean) hh false (d2 + 1) (.inl (some (.int z.1))) z.2 1364 [(0, .ref 2000), (1, .ref l1), (2, .ref l2), (3, .ref l3), (4, .int l4)] [.long s1, .long s0] m0 := by
  unfold bb_L_law_1364 at h
  refine ru_lcmp dL_law_1364 <| ?_
  refine ru_if_eq (tgt := 1370) dL_law_1365 (by decide) (fun hc => ?_) (fun hc => ?_)
  · rw [if_pos hc] at h
    exact ru_pick [0, 1, 2, 3, 4] rfl (tbb_L_law_1370 hl0 hd _ hr23 _ _ _ _ _ _ h)
  · rw [if_neg hc] at h
    refine ru_iconst dL_law_1368 kc_i_0 <| ?_
    cases h
    exact ru_ret (v := some (.int _)) ⟨_, rfl, ab_nz0, dL_law_1369⟩
theorem tbb_L_law_1307 {l : Launch} {g : ab_G} {hh : List (Nat × Nat × Nat × Nat)} (hl0 : l.stackTraces = false) {d2 : Nat} (hd : 42 ≤ d2 + 1) (r23 : Nat → Nat → Nat → Int32 → ab_Mm → Option (Int32 × ab_Mm)) (hr23 : ∀ (l1 : Nat) (l2 : Nat) (l3 : Nat) (l4 : Int32) (m : ab_Mm) (z : (Int32 × ab_Mm)), r23 l1 l2 l3 l4 m = some z → ab_W l g cL_law RL 9 (some .boolean) hh false (d2 + 1) (.inl (some (.int z.1))) z.2 23 [(0, .ref 2000), (1, .ref l1), (2, .ref l2), (3, .ref l3), (4, .int l4)] [] m) (l1 : Nat) (l2 : Nat) (l3 : Nat) (l4 : Int32) (m0 : ab_Mm) (z : (Int32 × ab_Mm)) (h : bb_L_law_1307 g.2.2.2.2.1 g.2.2.2.2.2 r23 l1 l2 l3 l4 m0 = some z) : ab_W l g cL_law RL 9 (some .boolean) hh false (d2 + 1) (.inl (some (.int z.1))) z.2 1307 [(0, .ref 2000), (1, .ref l1), (2, .ref l2), (3, .ref l3), (4, .int l4)] [] m0 := by
  unfold bb_L_law_1307 at h
  refine ru_goto (tgt := 2330) dL_law_1307 (by decide) <| ?_
  exact ru_pick [0, 1, 2, 3, 4] rfl (tbb_L_law_2330 hl0 hd _ hr23 _ _ _ _ _ _ h)
theorem tbb_L_law_1301 {l : Launch} {g : ab_G} {hh : List (Nat × Nat × Nat × Nat)} (hl0 : l.stackTraces = false) {d2 : Nat} (hd : 42 ≤ d2 + 1) (r23 : Nat → Nat → Nat → Int32 → ab_Mm → Option (Int32 × ab_Mm)) (hr23 : ∀ (l1 : Nat) (l2 : Nat) (l3 : Nat) (l4 : Int32) (m : ab_Mm) (z : (Int32 × ab_Mm)), r23 l1 l2 l3 l4 m = some z → ab_W l g cL_law RL 9 (some .boolean) hh false (d2 + 1) (.inl (some (.int z.1))) z.2 23 [(0, .ref 2000), (1, .ref l1), (2, .ref l2), (3, .ref l3), (4, .int l4)] [] m) (l1 : Nat) (l2 : Nat) (l3 : Nat) (l4 : Int32) (s0 : Int64) (s1 : Int64) (m0 : ab_Mm) (z : (Int32 × ab_Mm)) (h : bb_L_law_1301 g.2.2.2.2.1 g.2.2.2.2.2 r23 l1 l2 l3 l4 s0 s1 m0 = some z) : ab_W l g cL_law RL 9 (some .boolean) hh false (d2 + 1) (.inl (some (.int z.1))) z.2 1301 [(0, .ref 2000), (1, .ref l1), (2, .ref l2), (3, .ref l3), (4, .int l4)] [.long s1, .long s0] m0 := by
  unfold bb_L_law_1301 at h
  refine ru_lcmp dL_law_1301 <| ?_
  refine ru_if_eq (tgt := 1307) dL_law_1302 (by decide) (fun hc => ?_) (fun hc => ?_)
  · rw [if_pos hc] at h
    exact ru_pick [0, 1, 2, 3, 4] rfl (tbb_L_law_1307 hl0 hd _ hr23 _ _ _ _ _ _ h)
  · rw [if_neg hc] at h
    refine ru_iconst dL_law_1305 kc_i_0 <| ?_
    cases h
    exact ru_ret (v := some (.int _)) ⟨_, rfl, ab_nz0, dL_law_1306⟩
theorem tbb_L_law_1244 {l : Launch} {g : ab_G} {hh : List (Nat × Nat × Nat × Nat)} (hl0 : l.stackTraces = false) {d2 : Nat} (hd : 42 ≤ d2 + 1) (r23 : Nat → Nat → Nat → Int32 → ab_Mm → Option (Int32 × ab_Mm)) (hr23 : ∀ (l1 : Nat) (l2 : Nat) (l3 : Nat) (l4 : Int32) (m : ab_Mm) (z : (Int32 × ab_Mm)), r23 l1 l2 l3 l4 m = some z → ab_W l g cL_law RL 9 (some .boolean) hh false (d2 + 1) (.inl (some (.int z.1))) z.2 23 [(0, .ref 2000), (1, .ref l1), (2, .ref l2), (3, .ref l3), (4, .int l4)] [] m) (l1 : Nat) (l2 : Nat) (l3 : Nat) (l4 : Int32) (m0 : ab_Mm) (z : (Int32 × ab_Mm)) (h : bb_L_law_1244 g.2.2.2.2.1 g.2.2.2.2.2 r23 l1 l2 l3 l4 m0 = some z) : ab_W l g cL_law RL 9 (some .boolean) hh false (d2 + 1) (.inl (some (.int z.1))) z.2 1244 [(0, .ref 2000), (1, .ref l1), (2, .ref l2), (3, .ref l3), (4, .int l4)] [] m0 := by
  unfold bb_L_law_1244 at h
  refine ru_goto (tgt := 2330) dL_law_1244 (by decide) <| ?_
  exact ru_pick [0, 1, 2, 3, 4] rfl (tbb_L_law_2330 hl0 hd _ hr23 _ _ _ _ _ _ h)
theorem tbb_L_law_1176 {l : Launch} {g : ab_G} {hh : List (Nat × Nat × Nat × Nat)} (hl0 : l.stackTraces = false) {d2 : Nat} (hd : 42 ≤ d2 + 1) (r23 : Nat → Nat → Nat → Int32 → ab_Mm → Option (Int32 × ab_Mm)) (hr23 : ∀ (l1 : Nat) (l2 : Nat) (l3 : Nat) (l4 : Int32) (m : ab_Mm) (z : (Int32 × ab_Mm)), r23 l1 l2 l3 l4 m = some z → ab_W l g cL_law RL 9 (some .boolean) hh false (d2 + 1) (.inl (some (.int z.1))) z.2 23 [(0, .ref 2000), (1, .ref l1), (2, .ref l2), (3, .ref l3), (4, .int l4)] [] m) (l1 : Nat) (l2 : Nat) (l3 : Nat) (l4 : Int32) (m0 : ab_Mm) (z : (Int32 × ab_Mm)) (h : bb_L_law_1176 g.2.2.2.2.1 g.2.2.2.2.2 r23 l1 l2 l3 l4 m0 = some z) : ab_W l g cL_law RL 9 (some .boolean) hh false (d2 + 1) (.inl (some (.int z.1))) z.2 1176 [(0, .ref 2000), (1, .ref l1), (2, .ref l2), (3, .ref l3), (4, .int l4)] [] m0 := by
  unfold bb_L_law_1176 at h
  refine ru_goto (tgt := 2330) dL_law_1176 (by decide) <| ?_
  exact ru_pick [0, 1, 2, 3, 4] rfl (tbb_L_law_2330 hl0 hd _ hr23 _ _ _ _ _ _ h)
theorem tbb_L_law_1120 {l : Launch} {g : ab_G} {hh : List (Nat × Nat × Nat × Nat)} (hl0 : l.stackTraces = false) {d2 : Nat} (hd : 42 ≤ d2 + 1) (r23 : Nat → Nat → Nat → Int32 → ab_Mm → Option (Int32 × ab_Mm)) (hr23 : ∀ (l1 : Nat) (l2 : Nat) (l3 : Nat) (l4 : Int32) (m : ab_Mm) (z : (Int32 × ab_Mm)), r23 l1 l2 l3 l4 m = some z → ab_W l g cL_law RL 9 (some .boolean) hh false (d2 + 1) (.inl (some (.int z.1))) z.2 23 [(0, .ref 2000), (1, .ref l1), (2, .ref l2), (3, .ref l3), (4, .int l4)] [] m) (l1 : Nat) (l2 : Nat) (l3 : Nat) (l4 : Int32) (m0 : ab_Mm) (z : (Int32 × ab_Mm)) (h : bb_L_law_1120 g.2.2.2.2.1 g.2.2.2.2.2 r23 l1 l2 l3 l4 m0 = some z) : ab_W l g cL_law RL 9 (some .boolean) hh false (d2 + 1) (.inl (some (.int z.1))) z.2 1120 [(0, .ref 2000), (1, .ref l1), (2, .ref l2), (3, .ref l3), (4, .int l4)] [] m0 := by
  unfold bb_L_law_1120 at h
  refine ru_goto (tgt := 2330) dL_law_1120 (by decide) <| ?_
  exact ru_pick [0, 1, 2, 3, 4] rfl (tbb_L_law_2330 hl0 hd _ hr23 _ _ _ _ _ _ h)
theorem tbb_L_law_1027 {l : Launch} {g : ab_G} {hh : List (Nat × Nat × Nat × Nat)} (hl0 : l.stackTraces = false) {d2 : Nat} (hd : 42 ≤ d2 + 1) (r23 : Nat → Nat → Nat → Int32 → ab_Mm → Option (Int32 × ab_Mm)) (hr23 : ∀ (l1 : Nat) (l2 : Nat) (l3 : Nat) (l4 : Int32) (m : ab_Mm) (z : (Int32 × ab_Mm)), r23 l1 l2 l3 l4 m = some z → ab_W l g cL_law RL 9 (some .boolean) hh false (d2 + 1) (.inl (some (.int z.1))) z.2 23 [(0, .ref 2000), (1, .ref l1), (2, .ref l2), (3, .ref l3), (4, .int l4)] [] m) (l1 : Nat) (l2 : Nat) (l3 : Nat) (l4 : Int32) (m0 : ab_Mm) (z : (Int32 × ab_Mm)) (h : bb_L_law_1027 g.2.2.2.2.1 g.2.2.2.2.2 r23 l1 l2 l3 l4 m0 = some z) : ab_W l g cL_law RL 9 (some .boolean) hh false (d2 + 1) (.inl (some (.int z.1))) z.2 1027 [(0, .ref 2000), (1, .ref l1), (2, .ref l2), (3, .ref l3), (4, .int l4)] [] m0 := by
  unfold bb_L_law_1027 at h
  refine ru_goto (tgt := 2330) dL_law_1027 (by decide) <| ?_
  exact ru_pick [0, 1, 2, 3, 4] rfl (tbb_L_law_2330 hl0 hd _ hr23 _ _ _ _ _ _ h)
theorem tbb_L_law_971 {l : Launch} {g : ab_G} {hh : List (Nat × Nat × Nat × Nat)} (hl0 : l.stackTraces = false) {d2 : Nat} (hd : 42 ≤ d2 + 1) (r23 : Nat → Nat → Nat → Int32 → ab_Mm → Option (Int32 × ab_Mm)) (hr23 : ∀ (l1 : Nat) (l2 : Nat) (l3 : Nat) (l4 : Int32) (m : ab_Mm) (z : (Int32 × ab_Mm)), r23 l1 l2 l3 l4 m = some z → ab_W l g cL_law RL 9 (some .boolean) hh false (d2 + 1) (.inl (some (.int z.1))) z.2 23 [(0, .ref 2000), (1, .ref l1), (2, .ref l2), (3, .ref l3), (4, .int l4)] [] m) (l1 : Nat) (l2 : Nat) (l3 : Nat) (l4 : Int32) (m0 : ab_Mm) (z : (Int32 × ab_Mm)) (h : bb_L_law_971 g.2.2.2.2.1 g.2.2.2.2.2 r23 l1 l2 l3 l4 m0 = some z) : ab_W l g cL_law RL 9 (some .boolean) hh false (d2 + 1) (.inl (some (.int z.1))) z.2 971 [(0, .ref 2000), (1, .ref l1), (2, .ref l2), (3, .ref l3), (4, .int l4)] [] m0 := by
  unfold bb_L_law_971 at h
  refine ru_goto (tgt := 2330) dL_law_971 (by decide) <| ?_
  exact ru_pick [0, 1, 2, 3, 4] rfl (tbb_L_law_2330 hl0 hd _ hr23 _ _ _ _ _ _ h)
theorem tbb_L_law_915 {l : Launch} {g : ab_G} {hh : List (Nat × Nat × Nat × Nat)} (hl0 : l.stackTraces = false) {d2 : Nat} (hd : 42 ≤ d2 + 1) (r23 : Nat → Nat → Nat → Int32 → ab_Mm → Option (Int32 × ab_Mm)) (hr23 : ∀ (l1 : Nat) (l2 : Nat) (l3 : Nat) (l4 : Int32) (m : ab_Mm) (z : (Int32 × ab_Mm)), r23 l1 l2 l3 l4 m = some z → ab_W l g cL_law RL 9 (some .boolean) hh false (d2 + 1) (.inl (some (.int z.1))) z.2 23 [(0, .ref 2000), (1, .ref l1), (2, .ref l2), (3, .ref l3), (4, .int l4)] [] m) (l1 : Nat) (l2 : Nat) (l3 : Nat) (l4 : Int32) (m0 : ab_Mm) (z : (Int32 × ab_Mm)) (h : bb_L_law_915 g.2.2.2.2.1 g.2.2.2.2.2 r23 l1 l2 l3 l4 m0 = some z) : ab_W l g cL_law RL 9 (some .boolean) hh false (d2 + 1) (.inl (some (.int z.1))) z.2 915 [(0, .ref 2000), (1, .ref l1), (2, .ref l2), (3, .ref l3), (4, .int l4)] [] m0 := by
  unfold bb_L_law_915 at h
  refine ru_goto (tgt := 2330) dL_law_915 (by decide) <| ?_
  exact ru_pick [0, 1, 2, 3, 4] rfl (tbb_L_law_2330 hl0 hd _ hr23 _ _ _ _ _ _ h)
theorem tbb_L_law_859 {l : Launch} {g : ab_G} {hh : List (Nat × Nat × Nat × Nat)} (hl0 : l.stackTraces = false) {d2 : Nat} (hd : 42 ≤ d2 + 1) (r23 : Nat → Nat → Nat → Int32 → ab_Mm → Option (Int32 × ab_Mm)) (hr23 : ∀ (l1 : Nat) (l2 : Nat) (l3 : Nat) (l4 : Int32) (m : ab_Mm) (z : (Int32 × ab_Mm)), r23 l1 l2 l3 l4 m = some z → ab_W l g cL_law RL 9 (some .boolean) hh false (d2 + 1) (.inl (some (.int z.1))) z.2 23 [(0, .ref 2000), (1, .ref l1), (2, .ref l2), (3, .ref l3), (4, .int l4)] [] m) (l1 : Nat) (l2 : Nat) (l3 : Nat) (l4 : Int32) (m0 : ab_Mm) (z : (Int32 × ab_Mm)) (h : bb_L_law_859 g.2.2.2.2.1 g.2.2.2.2.2 r23 l1 l2 l3 l4 m0 = some z) : ab_W l g cL_law RL 9 (some .boolean) hh false (d2 + 1) (.inl (some (.int z.1))) z.2 859 [(0, .ref 2000), (1, .ref l1), (2, .ref l2), (3, .ref l3), (4, .int l4)] [] m0 := by
  unfold bb_L_law_859 at h
  refine ru_goto (tgt := 2330) dL_law_859 (by decide) <| ?_
  exact ru_pick [0, 1, 2, 3, 4] rfl (tbb_L_law_2330 hl0 hd _ hr23 _ _ _ _ _ _ h)
theorem tbb_L_law_803 {l : Launch} {g : ab_G} {hh : List (Nat × Nat × Nat × Nat)} (hl0 : l.stackTraces = false) {d2 : Nat} (hd : 42 ≤ d2 + 1) (r23 : Nat → Nat → Nat → Int32 → ab_Mm → Option (Int32 × ab_Mm)) (hr23 : ∀ (l1 : Nat) (l2 : Nat) (l3 : Nat) (l4 : Int32) (m : ab_Mm) (z : (Int32 × ab_Mm)), r23 l1 l2 l3 l4 m = some z → ab_W l g cL_law RL 9 (some .boolean) hh false (d2 + 1) (.inl (some (.int z.1))) z.2 23 [(0, .ref 2000), (1, .ref l1), (2, .ref l2), (3, .ref l3), (4, .int l4)] [] m) (l1 : Nat) (l2 : Nat) (l3 : Nat) (l4 : Int32) (m0 : ab_Mm) (z : (Int32 × ab_Mm)) (h : bb_L_law_803 g.2.2.2.2.1 g.2.2.2.2.2 r23 l1 l2 l3 l4 m0 = some z) : ab_W l g cL_law RL 9 (some .boolean) hh false (d2 + 1) (.inl (some (.int z.1))) z.2 803 [(0, .ref 2000), (1, .ref l1), (2, .ref l2), (3, .ref l3), (4, .int l4)] [] m0 := by
  unfold bb_L_law_803 at h
  refine ru_goto (tgt := 2330) dL_law_803 (by decide) <| ?_
  exact ru_pick [0, 1, 2, 3, 4] rfl (tbb_L_law_2330 hl0 hd _ hr23 _ _ _ _ _ _ h)
theorem tbb_L_law_734 {l : Launch} {g : ab_G} {hh : List (Nat × Nat × Nat × Nat)} (hl0 : l.stackTraces = false) {d2 : Nat} (hd : 42 ≤ d2 + 1) (r23 : Nat → Nat → Nat → Int32 → ab_Mm → Option (Int32 × ab_Mm)) (hr23 : ∀ (l1 : Nat) (l2 : Nat) (l3 : Nat) (l4 : Int32) (m : ab_Mm) (z : (Int32 × ab_Mm)), r23 l1 l2 l3 l4 m = some z → ab_W l g cL_law RL 9 (some .boolean) hh false (d2 + 1) (.inl (some (.int z.1))) z.2 23 [(0, .ref 2000), (1, .ref l1), (2, .ref l2), (3, .ref l3), (4, .int l4)] [] m) (l1 : Nat) (l2 : Nat) (l3 : Nat) (l4 : Int32) (m0 : ab_Mm) (z : (Int32 × ab_Mm)) (h : bb_L_law_734 g.2.2.2.2.1 g.2.2.2.2.2 r23 l1 l2 l3 l4 m0 = some z) : ab_W l g cL_law RL 9 (some .boolean) hh false (d2 + 1) (.inl (some (.int z.1))) z.2 734 [(0, .ref 2000), (1, .ref l1), (2, .ref l2), (3, .ref l3), (4, .int l4)] [] m0 := by
  unfold bb_L_law_734 at h
  refine ru_goto (tgt := 2330) dL_law_734 (by decide) <| ?_
  exact ru_pick [0, 1, 2, 3, 4] rfl (tbb_L_law_2330 hl0 hd _ hr23 _ _ _ _ _ _ h)
theorem tbb_L_law_678 {l : Launch} {g : ab_G} {hh : List (Nat × Nat × Nat × Nat)} (hl0 : l.stackTraces = false) {d2 : Nat} (hd : 42 ≤ d2 + 1) (r23 : Nat → Nat → Nat → Int32 → ab_Mm → Option (Int32 × ab_Mm)) (hr23 : ∀ (l1 : Nat) (l2 : Nat) (l3 : Nat) (l4 : Int32) (m : ab_Mm) (z : (Int32 × ab_Mm)), r23 l1 l2 l3 l4 m = some z → ab_W l g cL_law RL 9 (some .boolean) hh false (d2 + 1) (.inl (some (.int z.1))) z.2 23 [(0, .ref 2000), (1, .ref l1), (2, .ref l2), (3, .ref l3), (4, .int l4)] [] m) (l1 : Nat) (l2 : Nat) (l3 : Nat) (l4 : Int32) (m0 : ab_Mm) (z : (Int32 × ab_Mm)) (h : bb_L_law_678 g.2.2.2.2.1 g.2.2.2.2.2 r23 l1 l2 l3 l4 m0 = some z) : ab_W l g cL_law RL 9 (some .boolean) hh false (d2 + 1) (.inl (some (.int z.1))) z.2 678 [(0, .ref 2000), (1, .ref l1), (2, .ref l2), (3, .ref l3), (4, .int l4)] [] m0 := by
  unfold bb_L_law_678 at h
  refine ru_goto (tgt := 2330) dL_law_678 (by decide) <| ?_
  exact ru_pick [0, 1, 2, 3, 4] rfl (tbb_L_law_2330 hl0 hd _ hr23 _ _ _ _ _ _ h)
theorem tbb_L_law_622 {l : Launch} {g : ab_G} {hh : List (Nat × Nat × Nat × Nat)} (hl0 : l.stackTraces = false) {d2 : Nat} (hd : 42 ≤ d2 + 1) (r23 : Nat → Nat → Nat → Int32 → ab_Mm → Option (Int32 × ab_Mm)) (hr23 : ∀ (l1 : Nat) (l2 : Nat) (l3 : Nat) (l4 : Int32) (m : ab_Mm) (z : (Int32 × ab_Mm)), r23 l1 l2 l3 l4 m = some z → ab_W l g cL_law RL 9 (some .boolean) hh false (d2 + 1) (.inl (some (.int z.1))) z.2 23 [(0, .ref 2000), (1, .ref l1), (2, .ref l2), (3, .ref l3), (4, .int l4)] [] m) (l1 : Nat) (l2 : Nat) (l3 : Nat) (l4 : Int32) (m0 : ab_Mm) (z : (Int32 × ab_Mm)) (h : bb_L_law_622 g.2.2.2.2.1 g.2.2.2.2.2 r23 l1 l2 l3 l4 m0 = some z) : ab_W l g cL_law RL 9 (some .boolean) hh false (d2 + 1) (.inl (some (.int z.1))) z.2 622 [(0, .ref 2000), (1, .ref l1), (2, .ref l2), (3, .ref l3), (4, .int l4)] [] m0 := by
  unfold bb_L_law_622 at h
  refine ru_goto (tgt := 2330) dL_law_622 (by decide) <| ?_
  exact ru_pick [0, 1, 2, 3, 4] rfl (tbb_L_law_2330 hl0 hd _ hr23 _ _ _ _ _ _ h)
theorem tbb_L_law_566 {l : Launch} {g : ab_G} {hh : List (Nat × Nat × Nat × Nat)} (hl0 : l.stackTraces = false) {d2 : Nat} (hd : 42 ≤ d2 + 1) (r23 : Nat → Nat → Nat → Int32 → ab_Mm → Option (Int32 × ab_Mm)) (hr23 : ∀ (l1 : Nat) (l2 : Nat) (l3 : Nat) (l4 : Int32) (m : ab_Mm) (z : (Int32 × ab_Mm)), r23 l1 l2 l3 l4 m = some z → ab_W l g cL_law RL 9 (some .boolean) hh false (d2 + 1) (.inl (some (.int z.1))) z.2 23 [(0, .ref 2000), (1, .ref l1), (2, .ref l2), (3, .ref l3), (4, .int l4)] [] m) (l1 : Nat) (l2 : Nat) (l3 : Nat) (l4 : Int32) (m0 : ab_Mm) (z : (Int32 × ab_Mm)) (h : bb_L_law_566 g.2.2.2.2.1 g.2.2.2.2.2 r23 l1 l2 l3 l4 m0 = some z) : ab_W l g cL_law RL 9 (some .boolean) hh false (d2 + 1) (.inl (some (.int z.1))) z.2 566 [(0, .ref 2000), (1, .ref l1), (2, .ref l2), (3, .ref l3), (4, .int l4)] [] m0 := by
  unfold bb_L_law_566 at h
  refine ru_goto (tgt := 2330) dL_law_566 (by decide) <| ?_
  exact ru_pick [0, 1, 2, 3, 4] rfl (tbb_L_law_2330 hl0 hd _ hr23 _ _ _ _ _ _ h)
theorem tbb_L_law_564 {l : Launch} {g : ab_G} {hh : List (Nat × Nat × Nat × Nat)} (hl0 : l.stackTraces = false) {d2 : Nat} (hd : 42 ≤ d2 + 1)    (m0 : ab_Mm) (z : (Int32 × ab_Mm)) (h : bb_L_law_564 g.2.2.2.2.1 g.2.2.2.2.2  m0 = some z) : ab_W l g cL_law RL 9 (some .boolean) hh false (d2 + 1) (.inl (some (.int z.1))) z.2 564 [] [] m0 := by
  unfold bb_L_law_564 at h
  refine ru_iconst dL_law_564 kc_i_0 <| ?_
  cases h
  exact ru_ret (v := some (.int _)) ⟨_, rfl, ab_nz0, dL_law_565⟩
theorem tbb_L_law_525 {l : Launch} {g : ab_G} {hh : List (Nat × Nat × Nat × Nat)} (hl0 : l.stackTraces = false) {d2 : Nat} (hd : 42 ≤ d2 + 1) (r23 : Nat → Nat → Nat → Int32 → ab_Mm → Option (Int32 × ab_Mm)) (hr23 : ∀ (l1 : Nat) (l2 : Nat) (l3 : Nat) (l4 : Int32) (m : ab_Mm) (z : (Int32 × ab_Mm)), r23 l1 l2 l3 l4 m = some z → ab_W l g cL_law RL 9 (some .boolean) hh false (d2 + 1) (.inl (some (.int z.1))) z.2 23 [(0, .ref 2000), (1, .ref l1), (2, .ref l2), (3, .ref l3), (4, .int l4)] [] m) (l1 : Nat) (l2 : Nat) (l3 : Nat) (l4 : Int32) (m0 : ab_Mm) (z : (Int32 × ab_Mm)) (h : bb_L_law_525 g.2.2.2.2.1 g.2.2.2.2.2 r23 l1 l2 l3 l4 m0 = some z) : ab_W l g cL_law RL 9 (some .boolean) hh false (d2 + 1) (.inl (some (.int z.1))) z.2 525 [(0, .ref 2000), (1, .ref l1), (2, .ref l2), (3, .ref l3), (4, .int l4)] [] m0 := by
  unfold bb_L_law_525 at h
  refine ru_goto (tgt := 2330) dL_law_525 (by decide) <| ?_
  exact ru_pick [0, 1, 2, 3, 4] rfl (tbb_L_law_2330 hl0 hd _ hr23 _ _ _ _ _ _ h)
theorem tbb_L_law_469 {l : Launch} {g : ab_G} {hh : List (Nat × Nat × Nat × Nat)} (hl0 : l.stackTraces = false) {d2 : Nat} (hd : 42 ≤ d2 + 1) (r23 : Nat → Nat → Nat → Int32 → ab_Mm → Option (Int32 × ab_Mm)) (hr23 : ∀ (l1 : Nat) (l2 : Nat) (l3 : Nat) (l4 : Int32) (m : ab_Mm) (z : (Int32 × ab_Mm)), r23 l1 l2 l3 l4 m = some z → ab_W l g cL_law RL 9 (some .boolean) hh false (d2 + 1) (.inl (some (.int z.1))) z.2 23 [(0, .ref 2000), (1, .ref l1), (2, .ref l2), (3, .ref l3), (4, .int l4)] [] m) (l1 : Nat) (l2 : Nat) (l3 : Nat) (l4 : Int32) (m0 : ab_Mm) (z : (Int32 × ab_Mm)) (h : bb_L_law_469 g.2.2.2.2.1 g.2.2.2.2.2 r23 l1 l2 l3 l4 m0 = some z) : ab_W l g cL_law RL 9 (some .boolean) hh false (d2 + 1) (.inl (some (.int z.1))) z.2 469 [(0, .ref 2000), (1, .ref l1), (2, .ref l2), (3, .ref l3), (4, .int l4)] [] m0 := by
  unfold bb_L_law_469 at h
  refine ru_goto (tgt := 2330) dL_law_469 (by decide) <| ?_
  exact ru_pick [0, 1, 2, 3, 4] rfl (tbb_L_law_2330 hl0 hd _ hr23 _ _ _ _ _ _ h)
theorem tbb_L_law_436 {l : Launch} {g : ab_G} {hh : List (Nat × Nat × Nat × Nat)} (hl0 : l.stackTraces = false) {d2 : Nat} (hd : 42 ≤ d2 + 1) (r23 : Nat → Nat → Nat → Int32 → ab_Mm → Option (Int32 × ab_Mm)) (hr23 : ∀ (l1 : Nat) (l2 : Nat) (l3 : Nat) (l4 : Int32) (m : ab_Mm) (z : (Int32 × ab_Mm)), r23 l1 l2 l3 l4 m = some z → ab_W l g cL_law RL 9 (some .boolean) hh false (d2 + 1) (.inl (some (.int z.1))) z.2 23 [(0, .ref 2000), (1, .ref l1), (2, .ref l2), (3, .ref l3), (4, .int l4)] [] m) (l1 : Nat) (l2 : Nat) (l3 : Nat) (l4 : Int32) (l5 : Int32) (s0 : Nat) (s1 : Int32) (s2 : Int32) (m0 : ab_Mm) (z : (Int32 × ab_Mm)) (h : bb_L_law_436 g.2.2.2.2.1 g.2.2.2.2.2 r23 l1 l2 l3 l4 l5 s0 s1 s2 m0 = some z) : ab_W l g cL_law RL 9 (some .boolean) hh false (d2 + 1) (.inl (some (.int z.1))) z.2 436 [(0, .ref 2000), (1, .ref l1), (2, .ref l2), (3, .ref l3), (4, .int l4), (5, .int l5)] [.int s2, .int s1, .ref s0] m0 := by
  unfold bb_L_law_436 at h
  obtain ⟨_, hrc, h⟩ := Option.bind_eq_some_iff.mp h
  obtain ⟨q1, hq1, h⟩ := Option.bind_eq_some_iff.mp h
  refine ru_callV (tm_X12_free hl0 (by omega) hq1) dL_law_436 rfl pm_L_148 mf_X12_free (ab_rcv_of hrc rfl) rfl rfl (Nat.le_of_ble_eq_true rfl) ?_
  refine ru_istore dL_law_439 (by decide) <| ru_aload_n (i := 2) dL_law_441 rfl rfl <| ?_
  obtain ⟨_, hrc, h⟩ := Option.bind_eq_some_iff.mp h
  obtain ⟨q2, hq2, h⟩ := Option.bind_eq_some_iff.mp h
  refine ru_callV (tm_X12_thrown hl0 (by omega) hq2) dL_law_442 rfl pm_L_129 mf_X12_thrown (ab_rcv_of hrc rfl) rfl rfl (Nat.le_of_ble_eq_true rfl) ?_
  refine ru_iload dL_law_445 rfl <| ?_
  refine ru_icmp_eq (tgt := 452) dL_law_447 (by decide) (fun hc => ?_) (fun hc => ?_)
  · rw [if_pos hc] at h
    refine ru_iload dL_law_452 rfl <| ?_
    refine ru_if_ne (tgt := 469) dL_law_454 (by decide) (fun hc => ?_) (fun hc => ?_)
    · rw [if_neg hc] at h
      exact ru_pick [0, 1, 2, 3, 4] rfl (tbb_L_law_469 hl0 hd _ hr23 _ _ _ _ _ _ h)
    · rw [if_pos hc] at h
      refine ru_aload_n (i := 3) dL_law_457 rfl rfl <| ru_iconst dL_law_458 kc_i_0 <| ?_
      refine ru_laload h dL_law_459 ?_
      intro v3 h
      refine ru_iload dL_law_460 rfl <| ru_i2l dL_law_462 <| ru_lcmp dL_law_463 <| ?_
      refine ru_if_eq (tgt := 469) dL_law_464 (by decide) (fun hc => ?_) (fun hc => ?_)
      · rw [if_pos hc] at h
        exact ru_pick [0, 1, 2, 3, 4] rfl (tbb_L_law_469 hl0 hd _ hr23 _ _ _ _ _ _ h)
      · rw [if_neg hc] at h
        refine ru_iconst dL_law_467 kc_i_0 <| ?_
        cases h
        exact ru_ret (v := some (.int _)) ⟨_, rfl, ab_nz0, dL_law_468⟩
  · rw [if_neg hc] at h
    refine ru_iconst dL_law_450 kc_i_0 <| ?_
    cases h
    exact ru_ret (v := some (.int _)) ⟨_, rfl, ab_nz0, dL_law_451⟩
theorem tbb_L_law_409 {l : Launch} {g : ab_G} {hh : List (Nat × Nat × Nat × Nat)} (hl0 : l.stackTraces = false) {d2 : Nat} (hd : 42 ≤ d2 + 1) (r23 : Nat → Nat → Nat → Int32 → ab_Mm → Option (Int32 × ab_Mm)) (hr23 : ∀ (l1 : Nat) (l2 : Nat) (l3 : Nat) (l4 : Int32) (m : ab_Mm) (z : (Int32 × ab_Mm)), r23 l1 l2 l3 l4 m = some z → ab_W l g cL_law RL 9 (some .boolean) hh false (d2 + 1) (.inl (some (.int z.1))) z.2 23 [(0, .ref 2000), (1, .ref l1), (2, .ref l2), (3, .ref l3), (4, .int l4)] [] m) (l1 : Nat) (l2 : Nat) (l3 : Nat) (l4 : Int32) (s0 : Nat) (s1 : Int32) (s2 : Int32) (m0 : ab_Mm) (z : (Int32 × ab_Mm)) (h : bb_L_law_409 g.2.2.2.2.1 g.2.2.2.2.2 r23 l1 l2 l3 l4 s0 s1 s2 m0 = some z) : ab_W l g cL_law RL 9 (some .boolean) hh false (d2 + 1) (.inl (some (.int z.1))) z.2 409 [(0, .ref 2000), (1, .ref l1), (2, .ref l2), (3, .ref l3), (4, .int l4)] [.int s2, .int s1, .ref s0] m0 := by
  unfold bb_L_law_409 at h
  refine ru_aload_n (i := 3) dL_law_409 rfl rfl <| ?_
  obtain ⟨q1, hq1, h⟩ := Option.bind_eq_some_iff.mp h
  refine ru_callSH (tm_L_free hl0 (by omega) hq1) dL_law_410 rfl pm_L_145 mf_L_free rfl rfl (Nat.le_of_ble_eq_true rfl) ?_
  refine ru_istore dL_law_413 (by decide) <| ru_aload_n (i := 2) dL_law_415 rfl rfl <| ru_aload_n (i := 0) dL_law_416 rfl rfl <| ru_iload dL_law_417 rfl <| ru_iconst dL_law_419 kc_i_1 <| ru_iadd dL_law_420 <| ?_
  rcases ab_iff h with ⟨hc, h⟩ | ⟨hc, h⟩
  · cases h
  refine ru_sld hc dL_law_421 ?_
  refine ru_aload_n (i := 0) dL_law_422 rfl rfl <| ru_iload dL_law_423 rfl <| ru_iconst dL_law_425 kc_i_2 <| ru_iadd dL_law_426 <| ?_
  rcases ab_iff h with ⟨hc, h⟩ | ⟨hc, h⟩
  · cases h
  refine ru_sld hc dL_law_427 ?_
  refine ru_if_eq (tgt := 435) dL_law_428 (by decide) (fun hc => ?_) (fun hc => ?_)
  · rw [if_pos hc] at h
    refine ru_iconst dL_law_435 kc_i_0 <| ?_
    exact ru_pick [0, 1, 2, 3, 4, 5] rfl (tbb_L_law_436 hl0 hd _ hr23 _ _ _ _ _ _ _ _ _ _ h)
  · rw [if_neg hc] at h
    refine ru_iconst dL_law_431 kc_i_1 <| ru_goto (tgt := 436) dL_law_432 (by decide) <| ?_
    exact ru_pick [0, 1, 2, 3, 4, 5] rfl (tbb_L_law_436 hl0 hd _ hr23 _ _ _ _ _ _ _ _ _ _ h)
