/-! ===== the methods keep to these functions (by program) ===== -/
theorem te_X10_init {l : Launch} {g : ab_G} (hl0 : l.stackTraces = false) {d2 : Nat} (hd : 1 ≤ d2 + 1)   (l0 : Nat) (l1 : Int32) (l2 : Int32) (m0 : ab_Mm) (z : (Unit × ab_Mm)) (h : dd_X10_init  l0 l1 l2 m0 = some z) : ab_W l g cX10_init RX10 3 none [] true (d2 + 1) (.inl none) z.2 0 [(0, .ref l0), (1, .int l1), (2, .int l2)] [] m0 := by
  unfold dd_X10_init at h
  refine ru_aload_n (i := 0) dX10_init_0 rfl rfl <| ru_objInit dX10_init_1 ⟨pm_X10_1, po_inst, po_code⟩ (Nat.le_of_ble_eq_true rfl) <| ru_aload_n (i := 0) dX10_init_4 rfl rfl <| ru_iconst dX10_init_5 kc_i_0 <| ?_
  refine ru_putI h dX10_init_6 lk_X10_7 ?_
  intro m1 h
  refine ru_aload_n (i := 0) dX10_init_9 rfl rfl <| ru_iconst dX10_init_10 kc_i_0 <| ru_iload_n (i := 1) dX10_init_11 rfl rfl <| ru_sipush dX10_init_12 kc_s_1000 <| ru_mmin dX10_init_15 ⟨pm_X10_13, pq_min_s, pq_ini, pq_min_c⟩ (Nat.le_of_ble_eq_true rfl) <| ru_mmax dX10_init_18 ⟨pm_X10_19, pq_max_s, pq_ini, pq_max_c⟩ (Nat.le_of_ble_eq_true rfl) <| ?_
  refine ru_putIF h dX10_init_21 lk_X10_22 rfl (fun q hq => by cases hq; rfl) (fun q hq => by cases hq; exact pf_X10_22) ?_
  intro m2 h
  refine ru_aload_n (i := 0) dX10_init_24 rfl rfl <| ru_iconst dX10_init_25 kc_i_0 <| ru_iload_n (i := 2) dX10_init_26 rfl rfl <| ru_sipush dX10_init_27 kc_s_1000 <| ru_mmin dX10_init_30 ⟨pm_X10_13, pq_min_s, pq_ini, pq_min_c⟩ (Nat.le_of_ble_eq_true rfl) <| ru_mmax dX10_init_33 ⟨pm_X10_19, pq_max_s, pq_ini, pq_max_c⟩ (Nat.le_of_ble_eq_true rfl) <| ?_
  refine ru_putIF h dX10_init_36 lk_X10_25 rfl (fun q hq => by cases hq; rfl) (fun q hq => by cases hq; exact pf_X10_25) ?_
  intro m3 h
  refine ru_aload_n (i := 0) dX10_init_39 rfl rfl <| ru_aload_n (i := 0) dX10_init_40 rfl rfl <| ?_
  refine ru_getI h dX10_init_41 lk_X10_22 ?_
  intro v4 h
  refine ru_aload_n (i := 0) dX10_init_44 rfl rfl <| ?_
  refine ru_getI h dX10_init_45 lk_X10_25 ?_
  intro v5 h
  refine ru_imul dX10_init_48 <| ?_
  refine ru_newI h dX10_init_49 fa_int ?_
  intro q6 h
  refine ru_putR h dX10_init_51 lk_X10_28 (fun _ => ⟨rfl, rfl⟩) rfl (fun q hq => by cases hq; rfl) (fun q hq => by cases hq; exact pf_X10_28) ?_
  intro m7 h
  cases h
  exact ru_ret (v := none) ⟨rfl, dX10_init_54⟩
theorem tm_X10_init {l : Launch} {g : ab_G} (hl0 : l.stackTraces = false) {d : Nat} (hd : 1 ≤ d) {l0 : Nat} {l1 : Int32} {l2 : Int32} {m : ab_Mm} {z : (Unit × ab_Mm)} (h : dd_X10_init l0 l1 l2 m = some z) : ab_Met l g yX10_init cX10_init 3 none [] d [.ref l0, .int l1, .int l2] m (.inl none) z.2 := by
  obtain ⟨d2, rfl⟩ : ∃ d2, d = d2 + 1 := ⟨d - 1, by omega⟩
  exact ab_of hl0 (by decide +kernel) (Nat.le_of_ble_eq_true rfl) (fun _ => rfl) rfl (te_X10_init hl0 hd _ _ _ _ _ h)
theorem te_X10_clear {l : Launch} {g : ab_G} (hl0 : l.stackTraces = false) {d2 : Nat} (hd : 2 ≤ d2 + 1)   (l0 : Nat) (m0 : ab_Mm) (z : (Unit × ab_Mm)) (h : dd_X10_clear  l0 m0 = some z) : ab_W l g cX10_clear RX10 1 none [] false (d2 + 1) (.inl none) z.2 0 [(0, .ref l0)] [] m0 := by
  unfold dd_X10_clear at h
  refine ru_aload_n (i := 0) dX10_clear_0 rfl rfl <| ?_
  refine ru_getR h dX10_clear_1 lk_X10_28 ?_
  intro v1 h
  refine ru_iconst dX10_clear_4 kc_i_0 <| ?_
  obtain ⟨q2, hq2, h⟩ := Option.bind_eq_some_iff.mp h
  refine ru_callS (tm_J7_fill_53178 hl0 (by omega) hq2) dX10_clear_5 rfl pm_X10_46 mf_J7_fill_53178 rfl rfl (Nat.le_of_ble_eq_true rfl) ?_
  refine ru_aload_n (i := 0) dX10_clear_8 rfl rfl <| ru_iconst dX10_clear_9 kc_i_0 <| ?_
  refine ru_putI h dX10_clear_10 lk_X10_7 ?_
  intro m3 h
  cases h
  exact ru_ret (v := none) ⟨rfl, dX10_clear_13⟩
theorem tm_X10_clear {l : Launch} {g : ab_G} (hl0 : l.stackTraces = false) {d : Nat} (hd : 2 ≤ d) {l0 : Nat} {m : ab_Mm} {z : (Unit × ab_Mm)} (h : dd_X10_clear l0 m = some z) : ab_Met l g yX10_clear cX10_clear 1 none [] d [.ref l0] m (.inl none) z.2 := by
  obtain ⟨d2, rfl⟩ : ∃ d2, d = d2 + 1 := ⟨d - 1, by omega⟩
  exact ab_of hl0 (by decide +kernel) (Nat.le_of_ble_eq_true rfl) (fun q => by cases q) rfl (te_X10_clear hl0 hd _ _ _ h)
theorem tbb_X10_get_44 {l : Launch} {g : ab_G} (hl0 : l.stackTraces = false) {d2 : Nat} (hd : 1 ≤ d2 + 1)   (s0 : Int32) (m0 : ab_Mm) (z : (Int32 × ab_Mm)) (h : bb_X10_get_44  s0 m0 = some z) : ab_W l g cX10_get RX10 4 (some .int) [] false (d2 + 1) (.inl (some (.int z.1))) z.2 44 [] [.int s0] m0 := by
  unfold bb_X10_get_44 at h
  cases h
  exact ru_ret (v := some (.int _)) ⟨_, rfl, rfl, dX10_get_44⟩
theorem tbb_X10_get_43 {l : Launch} {g : ab_G} (hl0 : l.stackTraces = false) {d2 : Nat} (hd : 1 ≤ d2 + 1)    (m0 : ab_Mm) (z : (Int32 × ab_Mm)) (h : bb_X10_get_43   m0 = some z) : ab_W l g cX10_get RX10 4 (some .int) [] false (d2 + 1) (.inl (some (.int z.1))) z.2 43 [] [] m0 := by
  unfold bb_X10_get_43 at h
  refine ru_iconst dX10_get_43 kc_i_0 <| ?_
  exact ru_pick [] rfl (tbb_X10_get_44 hl0 hd   _ _ _ h)
theorem te_X10_get {l : Launch} {g : ab_G} (hl0 : l.stackTraces = false) {d2 : Nat} (hd : 1 ≤ d2 + 1)   (l0 : Nat) (l1 : Int32) (l2 : Int32) (m0 : ab_Mm) (z : (Int32 × ab_Mm)) (h : dd_X10_get  l0 l1 l2 m0 = some z) : ab_W l g cX10_get RX10 4 (some .int) [] false (d2 + 1) (.inl (some (.int z.1))) z.2 0 [(0, .ref l0), (1, .int l1), (2, .int l2)] [] m0 := by
  unfold dd_X10_get at h
  refine ru_iload_n (i := 1) dX10_get_0 rfl rfl <| ru_aload_n (i := 0) dX10_get_1 rfl rfl <| ?_
  refine ru_getI h dX10_get_2 lk_X10_25 ?_
  intro v1 h
  refine ru_imul dX10_get_5 <| ru_iload_n (i := 2) dX10_get_6 rfl rfl <| ru_iadd dX10_get_7 <| ru_istore_n (i := 3) dX10_get_8 rfl (by decide) <| ru_iload_n (i := 2) dX10_get_9 rfl rfl <| ?_
  refine ru_if_lt (tgt := 43) dX10_get_10 (by decide) (fun hc => ?_) (fun hc => ?_)
  · rw [if_pos hc] at h
    exact ru_pick [] rfl (tbb_X10_get_43 hl0 hd    _ _ h)
  · rw [if_neg hc] at h
    refine ru_iload_n (i := 2) dX10_get_13 rfl rfl <| ru_aload_n (i := 0) dX10_get_14 rfl rfl <| ?_
    refine ru_getI h dX10_get_15 lk_X10_25 ?_
    intro v2 h
    refine ru_icmp_ge (tgt := 43) dX10_get_18 (by decide) (fun hc => ?_) (fun hc => ?_)
    · rw [if_pos hc] at h
      exact ru_pick [] rfl (tbb_X10_get_43 hl0 hd    _ _ h)
    · rw [if_neg hc] at h
      refine ru_iload_n (i := 3) dX10_get_21 rfl rfl <| ?_
      refine ru_if_lt (tgt := 43) dX10_get_22 (by decide) (fun hc => ?_) (fun hc => ?_)
      · rw [if_pos hc] at h
        exact ru_pick [] rfl (tbb_X10_get_43 hl0 hd    _ _ h)
      · rw [if_neg hc] at h
        refine ru_iload_n (i := 3) dX10_get_25 rfl rfl <| ru_aload_n (i := 0) dX10_get_26 rfl rfl <| ?_
        refine ru_getR h dX10_get_27 lk_X10_28 ?_
        intro v3 h
        refine ru_alen 0 h dX10_get_30 ?_
        intro v4 h
        refine ru_icmp_ge (tgt := 43) dX10_get_31 (by decide) (fun hc => ?_) (fun hc => ?_)
        · rw [if_pos hc] at h
          exact ru_pick [] rfl (tbb_X10_get_43 hl0 hd    _ _ h)
        · rw [if_neg hc] at h
          refine ru_aload_n (i := 0) dX10_get_34 rfl rfl <| ?_
          refine ru_getR h dX10_get_35 lk_X10_28 ?_
          intro v5 h
          refine ru_iload_n (i := 3) dX10_get_38 rfl rfl <| ?_
          refine ru_iaload h dX10_get_39 ?_
          intro v6 h
          refine ru_goto (tgt := 44) dX10_get_40 (by decide) <| ?_
          exact ru_pick [] rfl (tbb_X10_get_44 hl0 hd   _ _ _ h)
theorem tm_X10_get {l : Launch} {g : ab_G} (hl0 : l.stackTraces = false) {d : Nat} (hd : 1 ≤ d) {l0 : Nat} {l1 : Int32} {l2 : Int32} {m : ab_Mm} {z : (Int32 × ab_Mm)} (h : dd_X10_get l0 l1 l2 m = some z) : ab_Met l g yX10_get cX10_get 4 (some .int) [] d [.ref l0, .int l1, .int l2] m (.inl (some (.int z.1))) z.2 := by
  obtain ⟨d2, rfl⟩ : ∃ d2, d = d2 + 1 := ⟨d - 1, by omega⟩
  exact ab_of hl0 (by decide +kernel) (Nat.le_of_ble_eq_true rfl) (fun q => by cases q) rfl (te_X10_get hl0 hd _ _ _ _ _ h)
theorem tbb_X10_set_45 {l : Launch} {g : ab_G} (hl0 : l.stackTraces = false) {d2 : Nat} (hd : 1 ≤ d2 + 1)    (m0 : ab_Mm) (z : (Unit × ab_Mm)) (h : bb_X10_set_45   m0 = some z) : ab_W l g cX10_set RX10 5 none [] false (d2 + 1) (.inl none) z.2 45 [] [] m0 := by
  unfold bb_X10_set_45 at h
  cases h
  exact ru_ret (v := none) ⟨rfl, dX10_set_45⟩
theorem te_X10_set {l : Launch} {g : ab_G} (hl0 : l.stackTraces = false) {d2 : Nat} (hd : 1 ≤ d2 + 1)   (l0 : Nat) (l1 : Int32) (l2 : Int32) (l3 : Int32) (m0 : ab_Mm) (z : (Unit × ab_Mm)) (h : dd_X10_set  l0 l1 l2 l3 m0 = some z) : ab_W l g cX10_set RX10 5 none [] false (d2 + 1) (.inl none) z.2 0 [(0, .ref l0), (1, .int l1), (2, .int l2), (3, .int l3)] [] m0 := by
  unfold dd_X10_set at h
  refine ru_iload_n (i := 1) dX10_set_0 rfl rfl <| ru_aload_n (i := 0) dX10_set_1 rfl rfl <| ?_
  refine ru_getI h dX10_set_2 lk_X10_25 ?_
  intro v1 h
  refine ru_imul dX10_set_5 <| ru_iload_n (i := 2) dX10_set_6 rfl rfl <| ru_iadd dX10_set_7 <| ru_istore dX10_set_8 (by decide) <| ru_iload_n (i := 2) dX10_set_10 rfl rfl <| ?_
  refine ru_if_lt (tgt := 45) dX10_set_11 (by decide) (fun hc => ?_) (fun hc => ?_)
  · rw [if_pos hc] at h
    exact ru_pick [] rfl (tbb_X10_set_45 hl0 hd    _ _ h)
  · rw [if_neg hc] at h
    refine ru_iload_n (i := 2) dX10_set_14 rfl rfl <| ru_aload_n (i := 0) dX10_set_15 rfl rfl <| ?_
    refine ru_getI h dX10_set_16 lk_X10_25 ?_
    intro v2 h
    refine ru_icmp_ge (tgt := 45) dX10_set_19 (by decide) (fun hc => ?_) (fun hc => ?_)
    · rw [if_pos hc] at h
      exact ru_pick [] rfl (tbb_X10_set_45 hl0 hd    _ _ h)
    · rw [if_neg hc] at h
      refine ru_iload dX10_set_22 rfl <| ?_
      refine ru_if_lt (tgt := 45) dX10_set_24 (by decide) (fun hc => ?_) (fun hc => ?_)
      · rw [if_pos hc] at h
        exact ru_pick [] rfl (tbb_X10_set_45 hl0 hd    _ _ h)
      · rw [if_neg hc] at h
        refine ru_iload dX10_set_27 rfl <| ru_aload_n (i := 0) dX10_set_29 rfl rfl <| ?_
        refine ru_getR h dX10_set_30 lk_X10_28 ?_
        intro v3 h
        refine ru_alen 0 h dX10_set_33 ?_
        intro v4 h
        refine ru_icmp_ge (tgt := 45) dX10_set_34 (by decide) (fun hc => ?_) (fun hc => ?_)
        · rw [if_pos hc] at h
          exact ru_pick [] rfl (tbb_X10_set_45 hl0 hd    _ _ h)
        · rw [if_neg hc] at h
          refine ru_aload_n (i := 0) dX10_set_37 rfl rfl <| ?_
          refine ru_getR h dX10_set_38 lk_X10_28 ?_
          intro v5 h
          refine ru_iload dX10_set_41 rfl <| ru_iload_n (i := 3) dX10_set_43 rfl rfl <| ?_
          refine ru_iastore h dX10_set_44 ?_
          intro m6 h
          exact ru_pick [] rfl (tbb_X10_set_45 hl0 hd    _ _ h)
theorem tm_X10_set {l : Launch} {g : ab_G} (hl0 : l.stackTraces = false) {d : Nat} (hd : 1 ≤ d) {l0 : Nat} {l1 : Int32} {l2 : Int32} {l3 : Int32} {m : ab_Mm} {z : (Unit × ab_Mm)} (h : dd_X10_set l0 l1 l2 l3 m = some z) : ab_Met l g yX10_set cX10_set 5 none [] d [.ref l0, .int l1, .int l2, .int l3] m (.inl none) z.2 := by
  obtain ⟨d2, rfl⟩ : ∃ d2, d = d2 + 1 := ⟨d - 1, by omega⟩
  exact ab_of hl0 (by decide +kernel) (Nat.le_of_ble_eq_true rfl) (fun q => by cases q) rfl (te_X10_set hl0 hd _ _ _ _ _ _ h)
theorem te_X10_add {l : Launch} {g : ab_G} (hl0 : l.stackTraces = false) {d2 : Nat} (hd : 2 ≤ d2 + 1)   (l0 : Nat) (l1 : Int32) (l2 : Int32) (l3 : Int32) (m0 : ab_Mm) (z : (Unit × ab_Mm)) (h : dd_X10_add  l0 l1 l2 l3 m0 = some z) : ab_W l g cX10_add RX10 4 none [] false (d2 + 1) (.inl none) z.2 0 [(0, .ref l0), (1, .int l1), (2, .int l2), (3, .int l3)] [] m0 := by
  unfold dd_X10_add at h
  refine ru_aload_n (i := 0) dX10_add_0 rfl rfl <| ru_iload_n (i := 1) dX10_add_1 rfl rfl <| ru_iload_n (i := 2) dX10_add_2 rfl rfl <| ru_aload_n (i := 0) dX10_add_3 rfl rfl <| ru_iload_n (i := 1) dX10_add_4 rfl rfl <| ru_iload_n (i := 2) dX10_add_5 rfl rfl <| ?_
  obtain ⟨_, hrc, h⟩ := Option.bind_eq_some_iff.mp h
  obtain ⟨q1, hq1, h⟩ := Option.bind_eq_some_iff.mp h
  refine ru_callV (tm_X10_get hl0 (by omega) hq1) dX10_add_6 rfl pm_X10_32 mf_X10_get (ab_rcv_of hrc rfl) rfl rfl (Nat.le_of_ble_eq_true rfl) ?_
  refine ru_iload_n (i := 3) dX10_add_9 rfl rfl <| ru_iadd dX10_add_10 <| ?_
  obtain ⟨_, hrc, h⟩ := Option.bind_eq_some_iff.mp h
  obtain ⟨q2, hq2, h⟩ := Option.bind_eq_some_iff.mp h
  refine ru_callV (tm_X10_set hl0 (by omega) hq2) dX10_add_11 rfl pm_X10_35 mf_X10_set (ab_rcv_of hrc rfl) rfl rfl (Nat.le_of_ble_eq_true rfl) ?_
  cases h
  exact ru_ret (v := none) ⟨rfl, dX10_add_14⟩
theorem tm_X10_add {l : Launch} {g : ab_G} (hl0 : l.stackTraces = false) {d : Nat} (hd : 2 ≤ d) {l0 : Nat} {l1 : Int32} {l2 : Int32} {l3 : Int32} {m : ab_Mm} {z : (Unit × ab_Mm)} (h : dd_X10_add l0 l1 l2 l3 m = some z) : ab_Met l g yX10_add cX10_add 4 none [] d [.ref l0, .int l1, .int l2, .int l3] m (.inl none) z.2 := by
  obtain ⟨d2, rfl⟩ : ∃ d2, d = d2 + 1 := ⟨d - 1, by omega⟩
  exact ab_of hl0 (by decide +kernel) (Nat.le_of_ble_eq_true rfl) (fun q => by cases q) rfl (te_X10_add hl0 hd _ _ _ _ _ _ h)
theorem te_X10_copyFrom {l : Launch} {g : ab_G} (hl0 : l.stackTraces = false) {d2 : Nat} (hd : 1 ≤ d2 + 1)   (l0 : Nat) (l1 : Nat) (m0 : ab_Mm) (z : (Unit × ab_Mm)) (h : dd_X10_copyFrom  l0 l1 m0 = some z) : ab_W l g cX10_copyFrom RX10 2 none [] false (d2 + 1) (.inl none) z.2 0 [(0, .ref l0), (1, .ref l1)] [] m0 := by
  unfold dd_X10_copyFrom at h
  refine ru_aload_n (i := 1) dX10_copyFrom_0 rfl rfl <| ?_
  refine ru_getR h dX10_copyFrom_1 lk_X10_28 ?_
  intro v1 h
  refine ru_iconst dX10_copyFrom_4 kc_i_0 <| ru_aload_n (i := 0) dX10_copyFrom_5 rfl rfl <| ?_
  refine ru_getR h dX10_copyFrom_6 lk_X10_28 ?_
  intro v2 h
  refine ru_iconst dX10_copyFrom_9 kc_i_0 <| ru_aload_n (i := 0) dX10_copyFrom_10 rfl rfl <| ?_
  refine ru_getR h dX10_copyFrom_11 lk_X10_28 ?_
  intro v3 h
  refine ru_alen 0 h dX10_copyFrom_14 ?_
  intro v4 h
  refine ru_aload_n (i := 1) dX10_copyFrom_15 rfl rfl <| ?_
  refine ru_getR h dX10_copyFrom_16 lk_X10_28 ?_
  intro v5 h
  refine ru_alen 0 h dX10_copyFrom_19 ?_
  intro v6 h
  refine ru_mmin dX10_copyFrom_20 ⟨pm_X10_13, pq_min_s, pq_ini, pq_min_c⟩ (Nat.le_of_ble_eq_true rfl) <| ?_
  refine ru_copyI h dX10_copyFrom_23 ⟨pm_X10_52, pr_n, pr_s, pr_i⟩ (Nat.le_of_ble_eq_true rfl) ?_
  intro m7 h
  refine ru_aload_n (i := 0) dX10_copyFrom_26 rfl rfl <| ru_aload_n (i := 1) dX10_copyFrom_27 rfl rfl <| ?_
  refine ru_getI h dX10_copyFrom_28 lk_X10_7 ?_
  intro v8 h
  refine ru_putI h dX10_copyFrom_31 lk_X10_7 ?_
  intro m9 h
  cases h
  exact ru_ret (v := none) ⟨rfl, dX10_copyFrom_34⟩
theorem tm_X10_copyFrom {l : Launch} {g : ab_G} (hl0 : l.stackTraces = false) {d : Nat} (hd : 1 ≤ d) {l0 : Nat} {l1 : Nat} {m : ab_Mm} {z : (Unit × ab_Mm)} (h : dd_X10_copyFrom l0 l1 m = some z) : ab_Met l g yX10_copyFrom cX10_copyFrom 2 none [] d [.ref l0, .ref l1] m (.inl none) z.2 := by
  obtain ⟨d2, rfl⟩ : ∃ d2, d = d2 + 1 := ⟨d - 1, by omega⟩
  exact ab_of hl0 (by decide +kernel) (Nat.le_of_ble_eq_true rfl) (fun q => by cases q) rfl (te_X10_copyFrom hl0 hd _ _ _ _ h)
theorem tbb_X10_shift_59 {l : Launch} {g : ab_G} (hl0 : l.stackTraces = false) {d2 : Nat} (hd : 1 ≤ d2 + 1)    (m0 : ab_Mm) (z : (Unit × ab_Mm)) (h : bb_X10_shift_59   m0 = some z) : ab_W l g cX10_shift RX10 5 none [] false (d2 + 1) (.inl none) z.2 59 [] [] m0 := by
  unfold bb_X10_shift_59 at h
  cases h
  exact ru_ret (v := none) ⟨rfl, dX10_shift_59⟩
theorem te_X10_shift {l : Launch} {g : ab_G} (hl0 : l.stackTraces = false) {d2 : Nat} (hd : 1 ≤ d2 + 1)   (l0 : Nat) (l1 : Int32) (l2 : Int32) (l3 : Int32) (m0 : ab_Mm) (z : (Unit × ab_Mm)) (h : dd_X10_shift  l0 l1 l2 l3 m0 = some z) : ab_W l g cX10_shift RX10 5 none [] false (d2 + 1) (.inl none) z.2 0 [(0, .ref l0), (1, .int l1), (2, .int l2), (3, .int l3)] [] m0 := by
  unfold dd_X10_shift at h
  refine ru_aload_n (i := 0) dX10_shift_0 rfl rfl <| ?_
  refine ru_getI h dX10_shift_1 lk_X10_22 ?_
  intro v1 h
  refine ru_iload_n (i := 1) dX10_shift_4 rfl rfl <| ru_iload_n (i := 2) dX10_shift_5 rfl rfl <| ru_mmax dX10_shift_6 ⟨pm_X10_19, pq_max_s, pq_ini, pq_max_c⟩ (Nat.le_of_ble_eq_true rfl) <| ru_isub dX10_shift_9 <| ru_istore dX10_shift_10 (by decide) <| ru_iload_n (i := 1) dX10_shift_12 rfl rfl <| ?_
  refine ru_if_lt (tgt := 59) dX10_shift_13 (by decide) (fun hc => ?_) (fun hc => ?_)
  · rw [if_pos hc] at h
    exact ru_pick [] rfl (tbb_X10_shift_59 hl0 hd    _ _ h)
  · rw [if_neg hc] at h
    refine ru_iload_n (i := 2) dX10_shift_16 rfl rfl <| ?_
    refine ru_if_lt (tgt := 59) dX10_shift_17 (by decide) (fun hc => ?_) (fun hc => ?_)
    · rw [if_pos hc] at h
      exact ru_pick [] rfl (tbb_X10_shift_59 hl0 hd    _ _ h)
    · rw [if_neg hc] at h
      refine ru_iload_n (i := 3) dX10_shift_20 rfl rfl <| ?_
      refine ru_if_le (tgt := 59) dX10_shift_21 (by decide) (fun hc => ?_) (fun hc => ?_)
      · rw [if_pos hc] at h
        exact ru_pick [] rfl (tbb_X10_shift_59 hl0 hd    _ _ h)
      · rw [if_neg hc] at h
        refine ru_iload_n (i := 3) dX10_shift_24 rfl rfl <| ru_iload dX10_shift_25 rfl <| ?_
        refine ru_icmp_gt (tgt := 59) dX10_shift_27 (by decide) (fun hc => ?_) (fun hc => ?_)
        · rw [if_pos hc] at h
          exact ru_pick [] rfl (tbb_X10_shift_59 hl0 hd    _ _ h)
        · rw [if_neg hc] at h
          refine ru_aload_n (i := 0) dX10_shift_30 rfl rfl <| ?_
          refine ru_getR h dX10_shift_31 lk_X10_28 ?_
          intro v2 h
          refine ru_iload_n (i := 1) dX10_shift_34 rfl rfl <| ru_aload_n (i := 0) dX10_shift_35 rfl rfl <| ?_
          refine ru_getI h dX10_shift_36 lk_X10_25 ?_
          intro v3 h
          refine ru_imul dX10_shift_39 <| ru_aload_n (i := 0) dX10_shift_40 rfl rfl <| ?_
          refine ru_getR h dX10_shift_41 lk_X10_28 ?_
          intro v4 h
          refine ru_iload_n (i := 2) dX10_shift_44 rfl rfl <| ru_aload_n (i := 0) dX10_shift_45 rfl rfl <| ?_
          refine ru_getI h dX10_shift_46 lk_X10_25 ?_
          intro v5 h
          refine ru_imul dX10_shift_49 <| ru_iload_n (i := 3) dX10_shift_50 rfl rfl <| ru_aload_n (i := 0) dX10_shift_51 rfl rfl <| ?_
          refine ru_getI h dX10_shift_52 lk_X10_25 ?_
          intro v6 h
          refine ru_imul dX10_shift_55 <| ?_
          refine ru_copyI h dX10_shift_56 ⟨pm_X10_52, pr_n, pr_s, pr_i⟩ (Nat.le_of_ble_eq_true rfl) ?_
          intro m7 h
          exact ru_pick [] rfl (tbb_X10_shift_59 hl0 hd    _ _ h)
theorem tm_X10_shift {l : Launch} {g : ab_G} (hl0 : l.stackTraces = false) {d : Nat} (hd : 1 ≤ d) {l0 : Nat} {l1 : Int32} {l2 : Int32} {l3 : Int32} {m : ab_Mm} {z : (Unit × ab_Mm)} (h : dd_X10_shift l0 l1 l2 l3 m = some z) : ab_Met l g yX10_shift cX10_shift 5 none [] d [.ref l0, .int l1, .int l2, .int l3] m (.inl none) z.2 := by
  obtain ⟨d2, rfl⟩ : ∃ d2, d = d2 + 1 := ⟨d - 1, by omega⟩
  exact ab_of hl0 (by decide +kernel) (Nat.le_of_ble_eq_true rfl) (fun q => by cases q) rfl (te_X10_shift hl0 hd _ _ _ _ _ _ h)
theorem tbb_X10_insertRow_47 {l : Launch} {g : ab_G} (hl0 : l.stackTraces = false) {d2 : Nat} (hd : 2 ≤ d2 + 1)    (m0 : ab_Mm) (z : (Unit × ab_Mm)) (h : bb_X10_insertRow_47   m0 = some z) : ab_W l g cX10_insertRow RX10 2 none [] false (d2 + 1) (.inl none) z.2 47 [] [] m0 := by
  unfold bb_X10_insertRow_47 at h
  cases h
  exact ru_ret (v := none) ⟨rfl, dX10_insertRow_47⟩
theorem te_X10_insertRow {l : Launch} {g : ab_G} (hl0 : l.stackTraces = false) {d2 : Nat} (hd : 2 ≤ d2 + 1)   (l0 : Nat) (l1 : Int32) (m0 : ab_Mm) (z : (Unit × ab_Mm)) (h : dd_X10_insertRow  l0 l1 m0 = some z) : ab_W l g cX10_insertRow RX10 2 none [] false (d2 + 1) (.inl none) z.2 0 [(0, .ref l0), (1, .int l1)] [] m0 := by
  unfold dd_X10_insertRow at h
  refine ru_iload_n (i := 1) dX10_insertRow_0 rfl rfl <| ?_
  refine ru_if_lt (tgt := 47) dX10_insertRow_1 (by decide) (fun hc => ?_) (fun hc => ?_)
  · rw [if_pos hc] at h
    exact ru_pick [] rfl (tbb_X10_insertRow_47 hl0 hd    _ _ h)
  · rw [if_neg hc] at h
    refine ru_iload_n (i := 1) dX10_insertRow_4 rfl rfl <| ru_aload_n (i := 0) dX10_insertRow_5 rfl rfl <| ?_
    refine ru_getI h dX10_insertRow_6 lk_X10_7 ?_
    intro v1 h
    refine ru_icmp_gt (tgt := 47) dX10_insertRow_9 (by decide) (fun hc => ?_) (fun hc => ?_)
    · rw [if_pos hc] at h
      exact ru_pick [] rfl (tbb_X10_insertRow_47 hl0 hd    _ _ h)
    · rw [if_neg hc] at h
      refine ru_aload_n (i := 0) dX10_insertRow_12 rfl rfl <| ?_
      refine ru_getI h dX10_insertRow_13 lk_X10_7 ?_
      intro v2 h
      refine ru_aload_n (i := 0) dX10_insertRow_16 rfl rfl <| ?_
      refine ru_getI h dX10_insertRow_17 lk_X10_22 ?_
      intro v3 h
      refine ru_icmp_ge (tgt := 47) dX10_insertRow_20 (by decide) (fun hc => ?_) (fun hc => ?_)
      · rw [if_pos hc] at h
        exact ru_pick [] rfl (tbb_X10_insertRow_47 hl0 hd    _ _ h)
      · rw [if_neg hc] at h
        refine ru_aload_n (i := 0) dX10_insertRow_23 rfl rfl <| ru_iload_n (i := 1) dX10_insertRow_24 rfl rfl <| ru_iload_n (i := 1) dX10_insertRow_25 rfl rfl <| ru_iconst dX10_insertRow_26 kc_i_1 <| ru_iadd dX10_insertRow_27 <| ru_aload_n (i := 0) dX10_insertRow_28 rfl rfl <| ?_
        refine ru_getI h dX10_insertRow_29 lk_X10_7 ?_
        intro v4 h
        refine ru_iload_n (i := 1) dX10_insertRow_32 rfl rfl <| ru_isub dX10_insertRow_33 <| ?_
        obtain ⟨_, hrc, h⟩ := Option.bind_eq_some_iff.mp h
        obtain ⟨q5, hq5, h⟩ := Option.bind_eq_some_iff.mp h
        refine ru_callV (tm_X10_shift hl0 (by omega) hq5) dX10_insertRow_34 rfl pm_X10_39 mf_X10_shift (ab_rcv_of hrc rfl) rfl rfl (Nat.le_of_ble_eq_true rfl) ?_
        refine ru_aload_n (i := 0) dX10_insertRow_37 rfl rfl <| ru_dup dX10_insertRow_38 rfl <| ?_
        refine ru_getI h dX10_insertRow_39 lk_X10_7 ?_
        intro v6 h
        refine ru_iconst dX10_insertRow_42 kc_i_1 <| ru_iadd dX10_insertRow_43 <| ?_
        refine ru_putI h dX10_insertRow_44 lk_X10_7 ?_
        intro m7 h
        exact ru_pick [] rfl (tbb_X10_insertRow_47 hl0 hd    _ _ h)
theorem tm_X10_insertRow {l : Launch} {g : ab_G} (hl0 : l.stackTraces = false) {d : Nat} (hd : 2 ≤ d) {l0 : Nat} {l1 : Int32} {m : ab_Mm} {z : (Unit × ab_Mm)} (h : dd_X10_insertRow l0 l1 m = some z) : ab_Met l g yX10_insertRow cX10_insertRow 2 none [] d [.ref l0, .int l1] m (.inl none) z.2 := by
  obtain ⟨d2, rfl⟩ : ∃ d2, d = d2 + 1 := ⟨d - 1, by omega⟩
  exact ab_of hl0 (by decide +kernel) (Nat.le_of_ble_eq_true rfl) (fun q => by cases q) rfl (te_X10_insertRow hl0 hd _ _ _ _ h)
theorem tbb_X10_has_17 {l : Launch} {g : ab_G} (hl0 : l.stackTraces = false) {d2 : Nat} (hd : 1 ≤ d2 + 1)   (s0 : Int32) (m0 : ab_Mm) (z : (Int32 × ab_Mm)) (h : bb_X10_has_17  s0 m0 = some z) : ab_W l g cX10_has RX10 2 (some .boolean) [] false (d2 + 1) (.inl (some (.int z.1))) z.2 17 [] [.int s0] m0 := by
  unfold bb_X10_has_17 at h
  rcases ab_iff h with ⟨hc, h⟩ | ⟨hc, h⟩
  · cases h
  cases h
  exact ru_ret (v := some (.int _)) ⟨_, rfl, congrArg Value.int (Classical.not_not.mp hc), dX10_has_17⟩
theorem tbb_X10_has_16 {l : Launch} {g : ab_G} (hl0 : l.stackTraces = false) {d2 : Nat} (hd : 1 ≤ d2 + 1)    (m0 : ab_Mm) (z : (Int32 × ab_Mm)) (h : bb_X10_has_16   m0 = some z) : ab_W l g cX10_has RX10 2 (some .boolean) [] false (d2 + 1) (.inl (some (.int z.1))) z.2 16 [] [] m0 := by
  unfold bb_X10_has_16 at h
  refine ru_iconst dX10_has_16 kc_i_0 <| ?_
  exact ru_pick [] rfl (tbb_X10_has_17 hl0 hd   _ _ _ h)
theorem te_X10_has {l : Launch} {g : ab_G} (hl0 : l.stackTraces = false) {d2 : Nat} (hd : 1 ≤ d2 + 1)   (l0 : Nat) (l1 : Int32) (m0 : ab_Mm) (z : (Int32 × ab_Mm)) (h : dd_X10_has  l0 l1 m0 = some z) : ab_W l g cX10_has RX10 2 (some .boolean) [] false (d2 + 1) (.inl (some (.int z.1))) z.2 0 [(0, .ref l0), (1, .int l1)] [] m0 := by
  unfold dd_X10_has at h
  refine ru_iload_n (i := 1) dX10_has_0 rfl rfl <| ?_
  refine ru_if_lt (tgt := 16) dX10_has_1 (by decide) (fun hc => ?_) (fun hc => ?_)
  · rw [if_pos hc] at h
    exact ru_pick [] rfl (tbb_X10_has_16 hl0 hd    _ _ h)
  · rw [if_neg hc] at h
    refine ru_iload_n (i := 1) dX10_has_4 rfl rfl <| ru_aload_n (i := 0) dX10_has_5 rfl rfl <| ?_
    refine ru_getI h dX10_has_6 lk_X10_7 ?_
    intro v1 h
    refine ru_icmp_ge (tgt := 16) dX10_has_9 (by decide) (fun hc => ?_) (fun hc => ?_)
    · rw [if_pos hc] at h
      exact ru_pick [] rfl (tbb_X10_has_16 hl0 hd    _ _ h)
    · rw [if_neg hc] at h
      refine ru_iconst dX10_has_12 kc_i_1 <| ru_goto (tgt := 17) dX10_has_13 (by decide) <| ?_
      exact ru_pick [] rfl (tbb_X10_has_17 hl0 hd   _ _ _ h)
theorem tm_X10_has {l : Launch} {g : ab_G} (hl0 : l.stackTraces = false) {d : Nat} (hd : 1 ≤ d) {l0 : Nat} {l1 : Int32} {m : ab_Mm} {z : (Int32 × ab_Mm)} (h : dd_X10_has l0 l1 m = some z) : ab_Met l g yX10_has cX10_has 2 (some .boolean) [] d [.ref l0, .int l1] m (.inl (some (.int z.1))) z.2 := by
  obtain ⟨d2, rfl⟩ : ∃ d2, d = d2 + 1 := ⟨d - 1, by omega⟩
  exact ab_of hl0 (by decide +kernel) (Nat.le_of_ble_eq_true rfl) (fun q => by cases q) rfl (te_X10_has hl0 hd _ _ _ _ h)
theorem tbb_X10_isFull_16 {l : Launch} {g : ab_G} (hl0 : l.stackTraces = false) {d2 : Nat} (hd : 1 ≤ d2 + 1)   (s0 : Int32) (m0 : ab_Mm) (z : (Int32 × ab_Mm)) (h : bb_X10_isFull_16  s0 m0 = some z) : ab_W l g cX10_isFull RX10 1 (some .boolean) [] false (d2 + 1) (.inl (some (.int z.1))) z.2 16 [] [.int s0] m0 := by
  unfold bb_X10_isFull_16 at h
  rcases ab_iff h with ⟨hc, h⟩ | ⟨hc, h⟩
  · cases h
  cases h
  exact ru_ret (v := some (.int _)) ⟨_, rfl, congrArg Value.int (Classical.not_not.mp hc), dX10_isFull_16⟩
theorem te_X10_isFull {l : Launch} {g : ab_G} (hl0 : l.stackTraces = false) {d2 : Nat} (hd : 1 ≤ d2 + 1)   (l0 : Nat) (m0 : ab_Mm) (z : (Int32 × ab_Mm)) (h : dd_X10_isFull  l0 m0 = some z) : ab_W l g cX10_isFull RX10 1 (some .boolean) [] false (d2 + 1) (.inl (some (.int z.1))) z.2 0 [(0, .ref l0)] [] m0 := by
  unfold dd_X10_isFull at h
  refine ru_aload_n (i := 0) dX10_isFull_0 rfl rfl <| ?_
  refine ru_getI h dX10_isFull_1 lk_X10_7 ?_
  intro v1 h
  refine ru_aload_n (i := 0) dX10_isFull_4 rfl rfl <| ?_
  refine ru_getI h dX10_isFull_5 lk_X10_22 ?_
  intro v2 h
  refine ru_icmp_lt (tgt := 15) dX10_isFull_8 (by decide) (fun hc => ?_) (fun hc => ?_)
  · rw [if_pos hc] at h
    refine ru_iconst dX10_isFull_15 kc_i_0 <| ?_
    exact ru_pick [] rfl (tbb_X10_isFull_16 hl0 hd   _ _ _ h)
  · rw [if_neg hc] at h
    refine ru_iconst dX10_isFull_11 kc_i_1 <| ru_goto (tgt := 16) dX10_isFull_12 (by decide) <| ?_
    exact ru_pick [] rfl (tbb_X10_isFull_16 hl0 hd   _ _ _ h)
theorem tm_X10_isFull {l : Launch} {g : ab_G} (hl0 : l.stackTraces = false) {d : Nat} (hd : 1 ≤ d) {l0 : Nat} {m : ab_Mm} {z : (Int32 × ab_Mm)} (h : dd_X10_isFull l0 m = some z) : ab_Met l g yX10_isFull cX10_isFull 1 (some .boolean) [] d [.ref l0] m (.inl (some (.int z.1))) z.2 := by
  obtain ⟨d2, rfl⟩ : ∃ d2, d = d2 + 1 := ⟨d - 1, by omega⟩
  exact ab_of hl0 (by decide +kernel) (Nat.le_of_ble_eq_true rfl) (fun q => by cases q) rfl (te_X10_isFull hl0 hd _ _ _ h)
theorem tbb_X10_total_4 {l : Launch} {g : ab_G} (hl0 : l.stackTraces = false) {d2 : Nat} (hd : 2 ≤ d2 + 1)   : ∀ (n : Nat) (l0 : Nat) (l1 : Int32) (l2 : Int32) (l3 : Int32) (m0 : ab_Mm) (z : (Int32 × ab_Mm)), bb_X10_total_4  n l0 l1 l2 l3 m0 = some z → ab_W l g cX10_total RX10 4 (some .int) [] false (d2 + 1) (.inl (some (.int z.1))) z.2 4 [(0, .ref l0), (1, .int l1), (2, .int l2), (3, .int l3)] [] m0 := by
  intro n
  induction n with
  | zero => intro l0 l1 l2 l3 m0 z h; cases h
  | succ n ih =>
    intro l0 l1 l2 l3 m0 z h
    rw [bb_X10_total_4] at h
    refine ru_iload_n (i := 3) dX10_total_4 rfl rfl <| ru_aload_n (i := 0) dX10_total_5 rfl rfl <| ?_
    refine ru_getI h dX10_total_6 lk_X10_22 ?_
    intro v1 h
    refine ru_icmp_ge (tgt := 27) dX10_total_9 (by decide) (fun hc => ?_) (fun hc => ?_)
    · rw [if_pos hc] at h
      refine ru_iload_n (i := 2) dX10_total_27 rfl rfl <| ?_
      cases h
      exact ru_ret (v := some (.int _)) ⟨_, rfl, rfl, dX10_total_28⟩
    · rw [if_neg hc] at h
      refine ru_iload_n (i := 2) dX10_total_12 rfl rfl <| ru_aload_n (i := 0) dX10_total_13 rfl rfl <| ru_iload_n (i := 3) dX10_total_14 rfl rfl <| ru_iload_n (i := 1) dX10_total_15 rfl rfl <| ?_
      obtain ⟨_, hrc, h⟩ := Option.bind_eq_some_iff.mp h
      obtain ⟨q2, hq2, h⟩ := Option.bind_eq_some_iff.mp h
      refine ru_callV (tm_X10_get hl0 (by omega) hq2) dX10_total_16 rfl pm_X10_32 mf_X10_get (ab_rcv_of hrc rfl) rfl rfl (Nat.le_of_ble_eq_true rfl) ?_
      refine ru_iadd dX10_total_19 <| ru_istore_n (i := 2) dX10_total_20 rfl (by decide) <| ru_iinc dX10_total_21 (by decide) rfl (ab_inc kc_i_1) <| ru_goto (tgt := 4) dX10_total_24 (by decide) <| ?_
      exact ru_pick [0, 1, 2, 3] rfl (ih _ _ _ _ _ _ h)
theorem te_X10_total {l : Launch} {g : ab_G} (hl0 : l.stackTraces = false) {d2 : Nat} (hd : 2 ≤ d2 + 1)   (l0 : Nat) (l1 : Int32) (m0 : ab_Mm) (z : (Int32 × ab_Mm)) (h : dd_X10_total  l0 l1 m0 = some z) : ab_W l g cX10_total RX10 4 (some .int) [] false (d2 + 1) (.inl (some (.int z.1))) z.2 0 [(0, .ref l0), (1, .int l1)] [] m0 := by
  unfold dd_X10_total at h
  refine ru_iconst dX10_total_0 kc_i_0 <| ru_istore_n (i := 2) dX10_total_1 rfl (by decide) <| ru_iconst dX10_total_2 kc_i_0 <| ru_istore_n (i := 3) dX10_total_3 rfl (by decide) <| ?_
  exact ru_pick [0, 1, 2, 3] rfl (tbb_X10_total_4 hl0 hd   _ _ _ _ _ _ _ h)
theorem tm_X10_total {l : Launch} {g : ab_G} (hl0 : l.stackTraces = false) {d : Nat} (hd : 2 ≤ d) {l0 : Nat} {l1 : Int32} {m : ab_Mm} {z : (Int32 × ab_Mm)} (h : dd_X10_total l0 l1 m = some z) : ab_Met l g yX10_total cX10_total 4 (some .int) [] d [.ref l0, .int l1] m (.inl (some (.int z.1))) z.2 := by
  obtain ⟨d2, rfl⟩ : ∃ d2, d = d2 + 1 := ⟨d - 1, by omega⟩
  exact ab_of hl0 (by decide +kernel) (Nat.le_of_ble_eq_true rfl) (fun q => by cases q) rfl (te_X10_total hl0 hd _ _ _ _ h)
theorem tbb_X10_removeRow_34 {l : Launch} {g : ab_G} (hl0 : l.stackTraces = false) {d2 : Nat} (hd : 2 ≤ d2 + 1)    (m0 : ab_Mm) (z : (Unit × ab_Mm)) (h : bb_X10_removeRow_34   m0 = some z) : ab_W l g cX10_removeRow RX10 2 none [] false (d2 + 1) (.inl none) z.2 34 [] [] m0 := by
  unfold bb_X10_removeRow_34 at h
  cases h
  exact ru_ret (v := none) ⟨rfl, dX10_removeRow_34⟩
theorem te_X10_removeRow {l : Launch} {g : ab_G} (hl0 : l.stackTraces = false) {d2 : Nat} (hd : 2 ≤ d2 + 1)   (l0 : Nat) (l1 : Int32) (m0 : ab_Mm) (z : (Unit × ab_Mm)) (h : dd_X10_removeRow  l0 l1 m0 = some z) : ab_W l g cX10_removeRow RX10 2 none [] false (d2 + 1) (.inl none) z.2 0 [(0, .ref l0), (1, .int l1)] [] m0 := by
  unfold dd_X10_removeRow at h
  refine ru_aload_n (i := 0) dX10_removeRow_0 rfl rfl <| ru_iload_n (i := 1) dX10_removeRow_1 rfl rfl <| ?_
  obtain ⟨_, hrc, h⟩ := Option.bind_eq_some_iff.mp h
  obtain ⟨q1, hq1, h⟩ := Option.bind_eq_some_iff.mp h
  refine ru_callV (tm_X10_has hl0 (by omega) hq1) dX10_removeRow_2 rfl pm_X10_42 mf_X10_has (ab_rcv_of hrc rfl) rfl rfl (Nat.le_of_ble_eq_true rfl) ?_
  refine ru_if_eq (tgt := 34) dX10_removeRow_5 (by decide) (fun hc => ?_) (fun hc => ?_)
  · rw [if_pos hc] at h
    exact ru_pick [] rfl (tbb_X10_removeRow_34 hl0 hd    _ _ h)
  · rw [if_neg hc] at h
    refine ru_aload_n (i := 0) dX10_removeRow_8 rfl rfl <| ru_iload_n (i := 1) dX10_removeRow_9 rfl rfl <| ru_iconst dX10_removeRow_10 kc_i_1 <| ru_iadd dX10_removeRow_11 <| ru_iload_n (i := 1) dX10_removeRow_12 rfl rfl <| ru_aload_n (i := 0) dX10_removeRow_13 rfl rfl <| ?_
    refine ru_getI h dX10_removeRow_14 lk_X10_7 ?_
    intro v2 h
    refine ru_iload_n (i := 1) dX10_removeRow_17 rfl rfl <| ru_isub dX10_removeRow_18 <| ru_iconst dX10_removeRow_19 kc_i_1 <| ru_isub dX10_removeRow_20 <| ?_
    obtain ⟨_, hrc, h⟩ := Option.bind_eq_some_iff.mp h
    obtain ⟨q3, hq3, h⟩ := Option.bind_eq_some_iff.mp h
    refine ru_callV (tm_X10_shift hl0 (by omega) hq3) dX10_removeRow_21 rfl pm_X10_39 mf_X10_shift (ab_rcv_of hrc rfl) rfl rfl (Nat.le_of_ble_eq_true rfl) ?_
    refine ru_aload_n (i := 0) dX10_removeRow_24 rfl rfl <| ru_dup dX10_removeRow_25 rfl <| ?_
    refine ru_getI h dX10_removeRow_26 lk_X10_7 ?_
    intro v4 h
    refine ru_iconst dX10_removeRow_29 kc_i_1 <| ru_isub dX10_removeRow_30 <| ?_
    refine ru_putI h dX10_removeRow_31 lk_X10_7 ?_
    intro m5 h
    exact ru_pick [] rfl (tbb_X10_removeRow_34 hl0 hd    _ _ h)
theorem tm_X10_removeRow {l : Launch} {g : ab_G} (hl0 : l.stackTraces = false) {d : Nat} (hd : 2 ≤ d) {l0 : Nat} {l1 : Int32} {m : ab_Mm} {z : (Unit × ab_Mm)} (h : dd_X10_removeRow l0 l1 m = some z) : ab_Met l g yX10_removeRow cX10_removeRow 2 none [] d [.ref l0, .int l1] m (.inl none) z.2 := by
  obtain ⟨d2, rfl⟩ : ∃ d2, d = d2 + 1 := ⟨d - 1, by omega⟩
  exact ab_of hl0 (by decide +kernel) (Nat.le_of_ble_eq_true rfl) (fun q => by cases q) rfl (te_X10_removeRow hl0 hd _ _ _ _ h)
