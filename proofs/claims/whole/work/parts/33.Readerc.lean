/-! ===== the methods keep to these functions (by program) ===== -/
theorem tm_X7_statement {l : Launch} {g : ab_G} (hl0 : l.stackTraces = false) {d : Nat} (hd : 38 ≤ d) {l0 : Nat} {m : ab_Mm} {z : (Int32 × ab_Mm)} (h : dd_X7_statement l0 m = some z) : ab_Met l g yX7_statement cX7_statement 1 (some .boolean) [] d [.ref l0] m (.inl (some (.int z.1))) z.2 := by
  obtain ⟨d2, rfl⟩ : ∃ d2, d = d2 + 1 := ⟨d - 1, by omega⟩
  exact ab_of hl0 (by decide +kernel) (Nat.le_of_ble_eq_true rfl) (fun q => by cases q) rfl (te_X7_statement hl0 hd _ _ _ h)
theorem tbb_X7_read_86 {l : Launch} {g : ab_G} (hl0 : l.stackTraces = false) {d2 : Nat} (hd : 39 ≤ d2 + 1)   (l0 : Nat) (m0 : ab_Mm) (z : (Int32 × ab_Mm)) (h : bb_X7_read_86  l0 m0 = some z) : ab_W l g cX7_read RX7 4 (some .int) [] false (d2 + 1) (.inl (some (.int z.1))) z.2 86 [(0, .ref l0)] [] m0 := by
  unfold bb_X7_read_86 at h
  refine ru_aload_n (i := 0) dX7_read_86 rfl rfl <| ?_
  refine ru_getI h dX7_read_87 lk_X7_29 ?_
  intro v1 h
  cases h
  exact ru_ret (v := some (.int _)) ⟨_, rfl, rfl, dX7_read_90⟩
theorem tbb_X7_read_57 {l : Launch} {g : ab_G} (hl0 : l.stackTraces = false) {d2 : Nat} (hd : 39 ≤ d2 + 1)   : ∀ (n : Nat) (l0 : Nat) (l2 : Int32) (l3 : Int32) (m0 : ab_Mm) (z : (Int32 × ab_Mm)), bb_X7_read_57  n l0 l2 l3 m0 = some z → ab_W l g cX7_read RX7 4 (some .int) [] false (d2 + 1) (.inl (some (.int z.1))) z.2 57 [(0, .ref l0), (2, .int l2), (3, .int l3)] [] m0 := by
  intro n
  induction n with
  | zero => intro l0 l2 l3 m0 z h; cases h
  | succ n ih =>
    intro l0 l2 l3 m0 z h
    rw [bb_X7_read_57] at h
    refine ru_iload_n (i := 3) dX7_read_57 rfl rfl <| ru_sipush dX7_read_58 kc_s_800 <| ?_
    refine ru_icmp_gt (tgt := 86) dX7_read_61 (by decide) (fun hc => ?_) (fun hc => ?_)
    · rw [if_pos hc] at h
      exact ru_pick [0] rfl (tbb_X7_read_86 hl0 hd   _ _ _ h)
    · rw [if_neg hc] at h
      refine ru_iload_n (i := 2) dX7_read_64 rfl rfl <| ?_
      refine ru_if_eq (tgt := 86) dX7_read_65 (by decide) (fun hc => ?_) (fun hc => ?_)
      · rw [if_pos hc] at h
        exact ru_pick [0] rfl (tbb_X7_read_86 hl0 hd   _ _ _ h)
      · rw [if_neg hc] at h
        refine ru_aload_n (i := 0) dX7_read_68 rfl rfl <| ?_
        refine ru_getI h dX7_read_69 lk_X7_41 ?_
        intro v1 h
        refine ru_if_eq (tgt := 86) dX7_read_72 (by decide) (fun hc => ?_) (fun hc => ?_)
        · rw [if_pos hc] at h
          exact ru_pick [0] rfl (tbb_X7_read_86 hl0 hd   _ _ _ h)
        · rw [if_neg hc] at h
          refine ru_aload_n (i := 0) dX7_read_75 rfl rfl <| ?_
          obtain ⟨_, hrc, h⟩ := Option.bind_eq_some_iff.mp h
          obtain ⟨q2, hq2, h⟩ := Option.bind_eq_some_iff.mp h
          refine ru_callV (tm_X7_statement hl0 (by omega) hq2) dX7_read_76 rfl pm_X7_62 mf_X7_statement (ab_rcv_of hrc rfl) rfl rfl (Nat.le_of_ble_eq_true rfl) ?_
          refine ru_istore_n (i := 2) dX7_read_79 rfl (by decide) <| ru_iinc dX7_read_80 (by decide) rfl (ab_inc kc_i_1) <| ru_goto (tgt := 57) dX7_read_83 (by decide) <| ?_
          exact ru_pick [0, 2, 3] rfl (ih _ _ _ _ _ h)
theorem te_X7_read {l : Launch} {g : ab_G} (hl0 : l.stackTraces = false) {d2 : Nat} (hd : 39 ≤ d2 + 1)   (l0 : Nat) (l1 : Int32) (m0 : ab_Mm) (z : (Int32 × ab_Mm)) (h : dd_X7_read  l0 l1 m0 = some z) : ab_W l g cX7_read RX7 4 (some .int) [] false (d2 + 1) (.inl (some (.int z.1))) z.2 0 [(0, .ref l0), (1, .int l1)] [] m0 := by
  unfold dd_X7_read at h
  refine ru_aload_n (i := 0) dX7_read_0 rfl rfl <| ?_
  refine ru_getR h dX7_read_1 lk_X7_22 ?_
  intro v1 h
  obtain ⟨_, hrc, h⟩ := Option.bind_eq_some_iff.mp h
  obtain ⟨q2, hq2, h⟩ := Option.bind_eq_some_iff.mp h
  refine ru_callV (tm_X1_reset hl0 (by omega) hq2) dX7_read_4 rfl pm_X7_47 mf_X1_reset (ab_rcv_of hrc rfl) rfl rfl (Nat.le_of_ble_eq_true rfl) ?_
  refine ru_aload_n (i := 0) dX7_read_7 rfl rfl <| ru_iconst dX7_read_8 kc_i_m1 <| ?_
  refine ru_putI h dX7_read_9 lk_X7_26 ?_
  intro m3 h
  refine ru_aload_n (i := 0) dX7_read_12 rfl rfl <| ru_iconst dX7_read_13 kc_i_0 <| ?_
  refine ru_putI h dX7_read_14 lk_X7_29 ?_
  intro m4 h
  refine ru_aload_n (i := 0) dX7_read_17 rfl rfl <| ru_iconst dX7_read_18 kc_i_0 <| ru_iload_n (i := 1) dX7_read_19 rfl rfl <| ru_aload_n (i := 0) dX7_read_20 rfl rfl <| ?_
  refine ru_getR h dX7_read_21 lk_X7_9 ?_
  intro v5 h
  refine ru_alen 1 h dX7_read_24 ?_
  intro v6 h
  refine ru_mmin dX7_read_25 ⟨pm_X7_50, pq_min_s, pq_ini, pq_min_c⟩ (Nat.le_of_ble_eq_true rfl) <| ru_mmax dX7_read_28 ⟨pm_X7_56, pq_max_s, pq_ini, pq_max_c⟩ (Nat.le_of_ble_eq_true rfl) <| ?_
  refine ru_putI h dX7_read_31 lk_X7_32 ?_
  intro m7 h
  refine ru_aload_n (i := 0) dX7_read_34 rfl rfl <| ru_iconst dX7_read_35 kc_i_0 <| ?_
  refine ru_putI h dX7_read_36 lk_X7_15 ?_
  intro m8 h
  refine ru_aload_n (i := 0) dX7_read_39 rfl rfl <| ru_iconst dX7_read_40 kc_i_0 <| ?_
  refine ru_putI h dX7_read_41 lk_X7_35 ?_
  intro m9 h
  refine ru_aload_n (i := 0) dX7_read_44 rfl rfl <| ru_iconst dX7_read_45 kc_i_0 <| ?_
  refine ru_putI h dX7_read_46 lk_X7_44 ?_
  intro m10 h
  refine ru_aload_n (i := 0) dX7_read_49 rfl rfl <| ?_
  obtain ⟨_, hrc, h⟩ := Option.bind_eq_some_iff.mp h
  obtain ⟨q11, hq11, h⟩ := Option.bind_eq_some_iff.mp h
  refine ru_callV (tm_X7_advance hl0 (by omega) hq11) dX7_read_50 rfl pm_X7_59 mf_X7_advance (ab_rcv_of hrc rfl) rfl rfl (Nat.le_of_ble_eq_true rfl) ?_
  refine ru_iconst dX7_read_53 kc_i_1 <| ru_istore_n (i := 2) dX7_read_54 rfl (by decide) <| ru_iconst dX7_read_55 kc_i_0 <| ru_istore_n (i := 3) dX7_read_56 rfl (by decide) <| ?_
  exact ru_pick [0, 2, 3] rfl (tbb_X7_read_57 hl0 hd   _ _ _ _ _ _ h)
theorem tm_X7_read {l : Launch} {g : ab_G} (hl0 : l.stackTraces = false) {d : Nat} (hd : 39 ≤ d) {l0 : Nat} {l1 : Int32} {m : ab_Mm} {z : (Int32 × ab_Mm)} (h : dd_X7_read l0 l1 m = some z) : ab_Met l g yX7_read cX7_read 4 (some .int) [] d [.ref l0, .int l1] m (.inl (some (.int z.1))) z.2 := by
  obtain ⟨d2, rfl⟩ : ∃ d2, d = d2 + 1 := ⟨d - 1, by omega⟩
  exact ab_of hl0 (by decide +kernel) (Nat.le_of_ble_eq_true rfl) (fun q => by cases q) rfl (te_X7_read hl0 hd _ _ _ _ h)
