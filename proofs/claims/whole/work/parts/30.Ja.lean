/-! ===== the methods keep to these functions (by program) ===== -/
theorem ab_nz0 : narrow .boolean (.int 0) = .int 0 := by decide
theorem ab_nz1 : narrow .boolean (.int 1) = .int 1 := by decide
theorem tm_J3_ck {l : Launch} {g : ab_G} (hl0 : l.stackTraces = false) {d : Nat} (hd : 1 ≤ d) {i n : Int32} {v : Value} (hv : v = .null ∨ v = .ref 2001) {m : ab_Mm} (h1 : ¬ i < 0) (h2 : i < n) : ab_Met l g yJ3_checkIndex_8e157 cJ3_checkIndex_8e157 3 (some .int) [] d [.int i, .int n, v] m (.inl (some (.int i))) m := by
  have k : ab_W l g cJ3_checkIndex_8e157 RJ3 3 (some .int) [] false d (.inl (some (.int i))) m 0 [(0, .int i), (1, .int n), (2, v)] [] m := by
    refine ru_iload_n (i := 0) dJ3_checkIndex_8e157_0 rfl rfl <| ?_
    refine ru_if_lt (tgt := 9) dJ3_checkIndex_8e157_1 (by decide) (fun hc => absurd hc h1) (fun _ => ?_)
    refine ru_iload_n (i := 0) dJ3_checkIndex_8e157_4 rfl rfl <| ru_iload_n (i := 1) dJ3_checkIndex_8e157_5 rfl rfl <| ?_
    refine ru_icmp_lt (tgt := 16) dJ3_checkIndex_8e157_6 (by decide) (fun _ => ?_) (fun hc => absurd h2 hc)
    refine ru_iload_n (i := 0) dJ3_checkIndex_8e157_16 rfl rfl <| ?_
    exact ru_ret (v := some (.int _)) ⟨_, rfl, rfl, dJ3_checkIndex_8e157_17⟩
  rcases hv with rfl | rfl
  · exact ab_of hl0 (by decide +kernel) (Nat.le_of_ble_eq_true rfl) (fun q => by cases q) rfl k
  · exact ab_of hl0 (by decide +kernel) (Nat.le_of_ble_eq_true rfl) (fun q => by cases q) rfl k
theorem tm_J0_checkIndex_df160 {l : Launch} {g : ab_G} (hl0 : l.stackTraces = false) {d : Nat} (hd : 2 ≤ d) {i n : Int32} {m : ab_Mm} {u : Unit} (h : ab_ck i n = some u) : ab_Met l g yJ0_checkIndex_df160 cJ0_checkIndex_df160 2 none [] d [.int i, .int n] m (.inl none) m := by
  obtain ⟨d2, rfl⟩ : ∃ d2, d = d2 + 1 := ⟨d - 1, by omega⟩
  unfold ab_ck at h
  rcases ab_iff h with ⟨hc, h⟩ | ⟨hc, h⟩
  · have k : ∀ v : Value, v = .null ∨ v = .ref 2001 → ab_W l g cJ0_checkIndex_df160 RJ0 2 none [] false (d2 + 1) (.inl none) m 5 [(0, .int i), (1, .int n)] [v, .int n, .int i] m := by
      intro v hv
      refine ru_callS (As := [.int i, .int n, v]) (tm_J3_ck hl0 (by omega) hv hc.1 hc.2) dJ0_checkIndex_df160_5 rfl pm_J0_1059 mf_J3_checkIndex_8e157 rfl rfl (Nat.le_of_ble_eq_true rfl) ?_
      refine ru_pop dJ0_checkIndex_df160_8 rfl <| ?_
      exact ru_ret (v := none) ⟨rfl, dJ0_checkIndex_df160_9⟩
    refine ab_of (ini := false) (own := RJ0) hl0 (by decide +kernel) (Nat.le_of_ble_eq_true rfl) (fun q => by cases q) rfl ?_
    refine ru_iload_n (i := 0) dJ0_checkIndex_df160_0 rfl rfl <| ru_iload_n (i := 1) dJ0_checkIndex_df160_1 rfl rfl <| ?_
    exact ru_siobe dJ0_checkIndex_df160_2 pg_J0_1053 (ru_pick [0, 1] rfl (k _ (Or.inl rfl))) (ru_pick [0, 1] rfl (k _ (Or.inr rfl)))
  · cases h
theorem tbb_J7_fill_53178_5 {l : Launch} {g : ab_G} (hl0 : l.stackTraces = false) {d2 : Nat} (hd : 1 ≤ d2 + 1)   : ∀ (n : Nat) (l0 : Nat) (l1 : Int32) (l2 : Int32) (l3 : Int32) (m0 : ab_Mm) (z : (Unit × ab_Mm)), bb_J7_fill_53178_5  n l0 l1 l2 l3 m0 = some z → ab_W l g cJ7_fill_53178 RJ7 4 none [] false (d2 + 1) (.inl none) z.2 5 [(0, .ref l0), (1, .int l1), (2, .int l2), (3, .int l3)] [] m0 := by
  intro n
  induction n with
  | zero => intro l0 l1 l2 l3 m0 z h; cases h
  | succ n ih =>
    intro l0 l1 l2 l3 m0 z h
    rw [bb_J7_fill_53178_5] at h
    refine ru_iload_n (i := 2) dJ7_fill_53178_5 rfl rfl <| ru_iload_n (i := 3) dJ7_fill_53178_6 rfl rfl <| ?_
    refine ru_icmp_ge (tgt := 20) dJ7_fill_53178_7 (by decide) (fun hc => ?_) (fun hc => ?_)
    · rw [if_pos hc] at h
      cases h
      exact ru_ret (v := none) ⟨rfl, dJ7_fill_53178_20⟩
    · rw [if_neg hc] at h
      refine ru_aload_n (i := 0) dJ7_fill_53178_10 rfl rfl <| ru_iload_n (i := 2) dJ7_fill_53178_11 rfl rfl <| ru_iload_n (i := 1) dJ7_fill_53178_12 rfl rfl <| ?_
      refine ru_iastore h dJ7_fill_53178_13 ?_
      intro m1 h
      refine ru_iinc dJ7_fill_53178_14 (by decide) rfl (ab_inc kc_i_1) <| ru_goto (tgt := 5) dJ7_fill_53178_17 (by decide) <| ?_
      exact ru_pick [0, 1, 2, 3] rfl (ih _ _ _ _ _ _ h)
theorem te_J7_fill_53178 {l : Launch} {g : ab_G} (hl0 : l.stackTraces = false) {d2 : Nat} (hd : 1 ≤ d2 + 1)   (l0 : Nat) (l1 : Int32) (m0 : ab_Mm) (z : (Unit × ab_Mm)) (h : dd_J7_fill_53178  l0 l1 m0 = some z) : ab_W l g cJ7_fill_53178 RJ7 4 none [] false (d2 + 1) (.inl none) z.2 0 [(0, .ref l0), (1, .int l1)] [] m0 := by
  unfold dd_J7_fill_53178 at h
  refine ru_iconst dJ7_fill_53178_0 kc_i_0 <| ru_istore_n (i := 2) dJ7_fill_53178_1 rfl (by decide) <| ru_aload_n (i := 0) dJ7_fill_53178_2 rfl rfl <| ?_
  refine ru_alen 0 h dJ7_fill_53178_3 ?_
  intro v1 h
  refine ru_istore_n (i := 3) dJ7_fill_53178_4 rfl (by decide) <| ?_
  exact ru_pick [0, 1, 2, 3] rfl (tbb_J7_fill_53178_5 hl0 hd   _ _ _ _ _ _ _ h)
theorem tm_J7_fill_53178 {l : Launch} {g : ab_G} (hl0 : l.stackTraces = false) {d : Nat} (hd : 1 ≤ d) {l0 : Nat} {l1 : Int32} {m : ab_Mm} {z : (Unit × ab_Mm)} (h : dd_J7_fill_53178 l0 l1 m = some z) : ab_Met l g yJ7_fill_53178 cJ7_fill_53178 4 none [] d [.ref l0, .int l1] m (.inl none) z.2 := by
  obtain ⟨d2, rfl⟩ : ∃ d2, d = d2 + 1 := ⟨d - 1, by omega⟩
  exact ab_of hl0 (by decide +kernel) (Nat.le_of_ble_eq_true rfl) (fun q => by cases q) rfl (te_J7_fill_53178 hl0 hd _ _ _ _ h)
theorem te_J6_bitCount_0f7a4 {l : Launch} {g : ab_G} (hl0 : l.stackTraces = false) {d2 : Nat} (hd : 1 ≤ d2 + 1)   (l0 : Int32) (m0 : ab_Mm) (z : (Int32 × ab_Mm)) (h : dd_J6_bitCount_0f7a4  l0 m0 = some z) : ab_W l g cJ6_bitCount_0f7a4 RJ6 1 (some .int) [] false (d2 + 1) (.inl (some (.int z.1))) z.2 0 [(0, .int l0)] [] m0 := by
  unfold dd_J6_bitCount_0f7a4 at h
  refine ru_iload_n (i := 0) dJ6_bitCount_0f7a4_0 rfl rfl <| ru_iload_n (i := 0) dJ6_bitCount_0f7a4_1 rfl rfl <| ru_iconst dJ6_bitCount_0f7a4_2 kc_i_1 <| ru_iushr dJ6_bitCount_0f7a4_3 <| ru_ldc_w dJ6_bitCount_0f7a4_4 pk_J6_265 <| ru_iand dJ6_bitCount_0f7a4_7 <| ru_isub dJ6_bitCount_0f7a4_8 <| ru_istore_n (i := 0) dJ6_bitCount_0f7a4_9 rfl (by decide) <| ru_iload_n (i := 0) dJ6_bitCount_0f7a4_10 rfl rfl <| ru_ldc_w dJ6_bitCount_0f7a4_11 pk_J6_266 <| ?_
  refine ru_iand dJ6_bitCount_0f7a4_14 <| ru_iload_n (i := 0) dJ6_bitCount_0f7a4_15 rfl rfl <| ru_iconst dJ6_bitCount_0f7a4_16 kc_i_2 <| ru_iushr dJ6_bitCount_0f7a4_17 <| ru_ldc_w dJ6_bitCount_0f7a4_18 pk_J6_266 <| ru_iand dJ6_bitCount_0f7a4_21 <| ru_iadd dJ6_bitCount_0f7a4_22 <| ru_istore_n (i := 0) dJ6_bitCount_0f7a4_23 rfl (by decide) <| ru_iload_n (i := 0) dJ6_bitCount_0f7a4_24 rfl rfl <| ru_iload_n (i := 0) dJ6_bitCount_0f7a4_25 rfl rfl <| ?_
  refine ru_iconst dJ6_bitCount_0f7a4_26 kc_i_4 <| ru_iushr dJ6_bitCount_0f7a4_27 <| ru_iadd dJ6_bitCount_0f7a4_28 <| ru_ldc_w dJ6_bitCount_0f7a4_29 pk_J6_267 <| ru_iand dJ6_bitCount_0f7a4_32 <| ru_istore_n (i := 0) dJ6_bitCount_0f7a4_33 rfl (by decide) <| ru_iload_n (i := 0) dJ6_bitCount_0f7a4_34 rfl rfl <| ru_iload_n (i := 0) dJ6_bitCount_0f7a4_35 rfl rfl <| ru_bipush dJ6_bitCount_0f7a4_36 kc_b_8 <| ru_iushr dJ6_bitCount_0f7a4_38 <| ?_
  refine ru_iadd dJ6_bitCount_0f7a4_39 <| ru_istore_n (i := 0) dJ6_bitCount_0f7a4_40 rfl (by decide) <| ru_iload_n (i := 0) dJ6_bitCount_0f7a4_41 rfl rfl <| ru_iload_n (i := 0) dJ6_bitCount_0f7a4_42 rfl rfl <| ru_bipush dJ6_bitCount_0f7a4_43 kc_b_16 <| ru_iushr dJ6_bitCount_0f7a4_45 <| ru_iadd dJ6_bitCount_0f7a4_46 <| ru_istore_n (i := 0) dJ6_bitCount_0f7a4_47 rfl (by decide) <| ru_iload_n (i := 0) dJ6_bitCount_0f7a4_48 rfl rfl <| ru_bipush dJ6_bitCount_0f7a4_49 kc_b_63 <| ?_
  refine ru_iand dJ6_bitCount_0f7a4_51 <| ?_
  cases h
  exact ru_ret (v := some (.int _)) ⟨_, rfl, rfl, dJ6_bitCount_0f7a4_52⟩
theorem tm_J6_bitCount_0f7a4 {l : Launch} {g : ab_G} (hl0 : l.stackTraces = false) {d : Nat} (hd : 1 ≤ d) {l0 : Int32} {m : ab_Mm} {z : (Int32 × ab_Mm)} (h : dd_J6_bitCount_0f7a4 l0 m = some z) : ab_Met l g yJ6_bitCount_0f7a4 cJ6_bitCount_0f7a4 1 (some .int) [] d [.int l0] m (.inl (some (.int z.1))) z.2 := by
  obtain ⟨d2, rfl⟩ : ∃ d2, d = d2 + 1 := ⟨d - 1, by omega⟩
  exact ab_of hl0 (by decide +kernel) (Nat.le_of_ble_eq_true rfl) (fun q => by cases q) rfl (te_J6_bitCount_0f7a4 hl0 hd _ _ _ h)
theorem tbb_J0_coder_7d493_14 {l : Launch} {g : ab_G} (hl0 : l.stackTraces = false) {d2 : Nat} (hd : 1 ≤ d2 + 1)   (s0 : Int32) (m0 : ab_Mm) (z : (Int32 × ab_Mm)) (h : bb_J0_coder_7d493_14  s0 m0 = some z) : ab_W l g cJ0_coder_7d493 RJ0 1 (some .byte) [] false (d2 + 1) (.inl (some (.int z.1))) z.2 14 [] [.int s0] m0 := by
  unfold bb_J0_coder_7d493_14 at h
  rcases ab_iff h with ⟨hc, h⟩ | ⟨hc, h⟩
  · cases h
  cases h
  exact ru_ret (v := some (.int _)) ⟨_, rfl, congrArg Value.int (Classical.not_not.mp hc), dJ0_coder_7d493_14⟩
theorem te_J0_coder_7d493 {l : Launch} {g : ab_G} (hl0 : l.stackTraces = false) {d2 : Nat} (hd : 1 ≤ d2 + 1)   (l0 : Nat) (m0 : ab_Mm) (z : (Int32 × ab_Mm)) (h : dd_J0_coder_7d493  l0 m0 = some z) : ab_W l g cJ0_coder_7d493 RJ0 1 (some .byte) [] false (d2 + 1) (.inl (some (.int z.1))) z.2 0 [(0, .ref l0)] [] m0 := by
  unfold dd_J0_coder_7d493 at h
  refine ru_compact dJ0_coder_7d493_0 pg_J0_38 <| ?_
  refine ru_if_eq (tgt := 13) dJ0_coder_7d493_3 (by decide) (fun hc => ?_) (fun hc => ?_)
  · rw [if_pos hc] at h
    refine ru_iconst dJ0_coder_7d493_13 kc_i_1 <| ?_
    exact ru_pick [] rfl (tbb_J0_coder_7d493_14 hl0 hd   _ _ _ h)
  · rw [if_neg hc] at h
    refine ru_aload_n (i := 0) dJ0_coder_7d493_6 rfl rfl <| ?_
    refine ru_scod h dJ0_coder_7d493_7 pg_J0_15 ?_
    intro v1 h
    refine ru_goto (tgt := 14) dJ0_coder_7d493_10 (by decide) <| ?_
    exact ru_pick [] rfl (tbb_J0_coder_7d493_14 hl0 hd   _ _ _ h)
theorem tm_J0_coder_7d493 {l : Launch} {g : ab_G} (hl0 : l.stackTraces = false) {d : Nat} (hd : 1 ≤ d) {l0 : Nat} {m : ab_Mm} {z : (Int32 × ab_Mm)} (h : dd_J0_coder_7d493 l0 m = some z) : ab_Met l g yJ0_coder_7d493 cJ0_coder_7d493 1 (some .byte) [] d [.ref l0] m (.inl (some (.int z.1))) z.2 := by
  obtain ⟨d2, rfl⟩ : ∃ d2, d = d2 + 1 := ⟨d - 1, by omega⟩
  exact ab_of hl0 (by decide +kernel) (Nat.le_of_ble_eq_true rfl) (fun q => by cases q) rfl (te_J0_coder_7d493 hl0 hd _ _ _ h)
theorem te_J0_length_8abf5 {l : Launch} {g : ab_G} (hl0 : l.stackTraces = false) {d2 : Nat} (hd : 2 ≤ d2 + 1)   (l0 : Nat) (m0 : ab_Mm) (z : (Int32 × ab_Mm)) (h : dd_J0_length_8abf5  l0 m0 = some z) : ab_W l g cJ0_length_8abf5 RJ0 1 (some .int) [] false (d2 + 1) (.inl (some (.int z.1))) z.2 0 [(0, .ref l0)] [] m0 := by
  unfold dd_J0_length_8abf5 at h
  refine ru_aload_n (i := 0) dJ0_length_8abf5_0 rfl rfl <| ?_
  refine ru_sval h dJ0_length_8abf5_1 pg_J0_9 ?_
  intro v1 h
  refine ru_slen h dJ0_length_8abf5_4 ?_
  intro v2 h
  refine ru_aload_n (i := 0) dJ0_length_8abf5_5 rfl rfl <| ?_
  obtain ⟨_, hrc, h⟩ := Option.bind_eq_some_iff.mp h
  obtain ⟨q3, hq3, h⟩ := Option.bind_eq_some_iff.mp h
  refine ru_callV (tm_J0_coder_7d493 hl0 (by omega) hq3) dJ0_length_8abf5_6 rfl pm_J0_335 mf_J0_coder_7d493 (ab_rcv_s hrc) rfl rfl (Nat.le_of_ble_eq_true rfl) ?_
  refine ru_ishr dJ0_length_8abf5_9 <| ?_
  cases h
  exact ru_ret (v := some (.int _)) ⟨_, rfl, rfl, dJ0_length_8abf5_10⟩
theorem tm_J0_length_8abf5 {l : Launch} {g : ab_G} (hl0 : l.stackTraces = false) {d : Nat} (hd : 2 ≤ d) {l0 : Nat} {m : ab_Mm} {z : (Int32 × ab_Mm)} (h : dd_J0_length_8abf5 l0 m = some z) : ab_Met l g yJ0_length_8abf5 cJ0_length_8abf5 1 (some .int) [] d [.ref l0] m (.inl (some (.int z.1))) z.2 := by
  obtain ⟨d2, rfl⟩ : ∃ d2, d = d2 + 1 := ⟨d - 1, by omega⟩
  exact ab_of hl0 (by decide +kernel) (Nat.le_of_ble_eq_true rfl) (fun q => by cases q) rfl (te_J0_length_8abf5 hl0 hd _ _ _ h)
theorem tbb_J0_isLatin1_aae02_18 {l : Launch} {g : ab_G} (hl0 : l.stackTraces = false) {d2 : Nat} (hd : 1 ≤ d2 + 1)   (s0 : Int32) (m0 : ab_Mm) (z : (Int32 × ab_Mm)) (h : bb_J0_isLatin1_aae02_18  s0 m0 = some z) : ab_W l g cJ0_isLatin1_aae02 RJ0 1 (some .boolean) [] false (d2 + 1) (.inl (some (.int z.1))) z.2 18 [] [.int s0] m0 := by
  unfold bb_J0_isLatin1_aae02_18 at h
  rcases ab_iff h with ⟨hc, h⟩ | ⟨hc, h⟩
  · cases h
  cases h
  exact ru_ret (v := some (.int _)) ⟨_, rfl, congrArg Value.int (Classical.not_not.mp hc), dJ0_isLatin1_aae02_18⟩
theorem tbb_J0_isLatin1_aae02_17 {l : Launch} {g : ab_G} (hl0 : l.stackTraces = false) {d2 : Nat} (hd : 1 ≤ d2 + 1)    (m0 : ab_Mm) (z : (Int32 × ab_Mm)) (h : bb_J0_isLatin1_aae02_17   m0 = some z) : ab_W l g cJ0_isLatin1_aae02 RJ0 1 (some .boolean) [] false (d2 + 1) (.inl (some (.int z.1))) z.2 17 [] [] m0 := by
  unfold bb_J0_isLatin1_aae02_17 at h
  refine ru_iconst dJ0_isLatin1_aae02_17 kc_i_0 <| ?_
  exact ru_pick [] rfl (tbb_J0_isLatin1_aae02_18 hl0 hd   _ _ _ h)
theorem te_J0_isLatin1_aae02 {l : Launch} {g : ab_G} (hl0 : l.stackTraces = false) {d2 : Nat} (hd : 1 ≤ d2 + 1)   (l0 : Nat) (m0 : ab_Mm) (z : (Int32 × ab_Mm)) (h : dd_J0_isLatin1_aae02  l0 m0 = some z) : ab_W l g cJ0_isLatin1_aae02 RJ0 1 (some .boolean) [] false (d2 + 1) (.inl (some (.int z.1))) z.2 0 [(0, .ref l0)] [] m0 := by
  unfold dd_J0_isLatin1_aae02 at h
  refine ru_compact dJ0_isLatin1_aae02_0 pg_J0_38 <| ?_
  refine ru_if_eq (tgt := 17) dJ0_isLatin1_aae02_3 (by decide) (fun hc => ?_) (fun hc => ?_)
  · rw [if_pos hc] at h
    exact ru_pick [] rfl (tbb_J0_isLatin1_aae02_17 hl0 hd    _ _ h)
  · rw [if_neg hc] at h
    refine ru_aload_n (i := 0) dJ0_isLatin1_aae02_6 rfl rfl <| ?_
    refine ru_scod h dJ0_isLatin1_aae02_7 pg_J0_15 ?_
    intro v1 h
    refine ru_if_ne (tgt := 17) dJ0_isLatin1_aae02_10 (by decide) (fun hc => ?_) (fun hc => ?_)
    · rw [if_neg hc] at h
      exact ru_pick [] rfl (tbb_J0_isLatin1_aae02_17 hl0 hd    _ _ h)
    · rw [if_pos hc] at h
      refine ru_iconst dJ0_isLatin1_aae02_13 kc_i_1 <| ru_goto (tgt := 18) dJ0_isLatin1_aae02_14 (by decide) <| ?_
      exact ru_pick [] rfl (tbb_J0_isLatin1_aae02_18 hl0 hd   _ _ _ h)
theorem tm_J0_isLatin1_aae02 {l : Launch} {g : ab_G} (hl0 : l.stackTraces = false) {d : Nat} (hd : 1 ≤ d) {l0 : Nat} {m : ab_Mm} {z : (Int32 × ab_Mm)} (h : dd_J0_isLatin1_aae02 l0 m = some z) : ab_Met l g yJ0_isLatin1_aae02 cJ0_isLatin1_aae02 1 (some .boolean) [] d [.ref l0] m (.inl (some (.int z.1))) z.2 := by
  obtain ⟨d2, rfl⟩ : ∃ d2, d = d2 + 1 := ⟨d - 1, by omega⟩
  exact ab_of hl0 (by decide +kernel) (Nat.le_of_ble_eq_true rfl) (fun q => by cases q) rfl (te_J0_isLatin1_aae02 hl0 hd _ _ _ h)
theorem te_J1_charAt_3b067 {l : Launch} {g : ab_G} (hl0 : l.stackTraces = false) {d2 : Nat} (hd : 3 ≤ d2 + 1)   (l0 : Nat) (l1 : Int32) (m0 : ab_Mm) (z : (Int32 × ab_Mm)) (h : dd_J1_charAt_3b067  l0 l1 m0 = some z) : ab_W l g cJ1_charAt_3b067 RJ1 2 (some .char) [] false (d2 + 1) (.inl (some (.int z.1))) z.2 0 [(0, .ref l0), (1, .int l1)] [] m0 := by
  unfold dd_J1_charAt_3b067 at h
  refine ru_iload_n (i := 1) dJ1_charAt_3b067_0 rfl rfl <| ru_aload_n (i := 0) dJ1_charAt_3b067_1 rfl rfl <| ?_
  refine ru_slen h dJ1_charAt_3b067_2 ?_
  intro v1 h
  obtain ⟨_, hq0, h⟩ := Option.bind_eq_some_iff.mp h
  refine ru_callS (tm_J0_checkIndex_df160 hl0 (by omega) hq0) dJ1_charAt_3b067_3 rfl pm_J1_9 mf_J0_checkIndex_df160 rfl rfl (Nat.le_of_ble_eq_true rfl) ?_
  refine ru_aload_n (i := 0) dJ1_charAt_3b067_6 rfl rfl <| ru_iload_n (i := 1) dJ1_charAt_3b067_7 rfl rfl <| ?_
  refine ru_sbl h dJ1_charAt_3b067_8 ?_
  intro v2 h
  refine ru_sipush dJ1_charAt_3b067_9 kc_s_255 <| ru_iand dJ1_charAt_3b067_12 <| ru_i2c dJ1_charAt_3b067_13 <| ?_
  rcases ab_iff h with ⟨hc, h⟩ | ⟨hc, h⟩
  · cases h
  cases h
  exact ru_ret (v := some (.int _)) ⟨_, rfl, congrArg Value.int (Classical.not_not.mp hc), dJ1_charAt_3b067_14⟩
theorem tm_J1_charAt_3b067 {l : Launch} {g : ab_G} (hl0 : l.stackTraces = false) {d : Nat} (hd : 3 ≤ d) {l0 : Nat} {l1 : Int32} {m : ab_Mm} {z : (Int32 × ab_Mm)} (h : dd_J1_charAt_3b067 l0 l1 m = some z) : ab_Met l g yJ1_charAt_3b067 cJ1_charAt_3b067 2 (some .char) [] d [.ref l0, .int l1] m (.inl (some (.int z.1))) z.2 := by
  obtain ⟨d2, rfl⟩ : ∃ d2, d = d2 + 1 := ⟨d - 1, by omega⟩
  exact ab_of hl0 (by decide +kernel) (Nat.le_of_ble_eq_true rfl) (fun q => by cases q) rfl (te_J1_charAt_3b067 hl0 hd _ _ _ _ h)
theorem te_J0_charAt_5068e {l : Launch} {g : ab_G} (hl0 : l.stackTraces = false) {d2 : Nat} (hd : 4 ≤ d2 + 1)   (l0 : Nat) (l1 : Int32) (m0 : ab_Mm) (z : (Int32 × ab_Mm)) (h : dd_J0_charAt_5068e  l0 l1 m0 = some z) : ab_W l g cJ0_charAt_5068e RJ0 2 (some .char) [] false (d2 + 1) (.inl (some (.int z.1))) z.2 0 [(0, .ref l0), (1, .int l1)] [] m0 := by
  unfold dd_J0_charAt_5068e at h
  refine ru_aload_n (i := 0) dJ0_charAt_5068e_0 rfl rfl <| ?_
  obtain ⟨_, hrc, h⟩ := Option.bind_eq_some_iff.mp h
  obtain ⟨q1, hq1, h⟩ := Option.bind_eq_some_iff.mp h
  refine ru_callV (tm_J0_isLatin1_aae02 hl0 (by omega) hq1) dJ0_charAt_5068e_1 rfl pm_J0_492 mf_J0_isLatin1_aae02 (ab_rcv_s hrc) rfl rfl (Nat.le_of_ble_eq_true rfl) ?_
  refine ru_if_eq (tgt := 16) dJ0_charAt_5068e_4 (by decide) (fun hc => ?_) (fun hc => ?_)
  · rw [if_pos hc] at h
    cases h
  · rw [if_neg hc] at h
    refine ru_aload_n (i := 0) dJ0_charAt_5068e_7 rfl rfl <| ?_
    refine ru_sval h dJ0_charAt_5068e_8 pg_J0_9 ?_
    intro v2 h
    refine ru_iload_n (i := 1) dJ0_charAt_5068e_11 rfl rfl <| ?_
    obtain ⟨q3, hq3, h⟩ := Option.bind_eq_some_iff.mp h
    refine ru_callS (tm_J1_charAt_3b067 hl0 (by omega) hq3) dJ0_charAt_5068e_12 rfl pm_J0_495 mf_J1_charAt_3b067 rfl rfl (Nat.le_of_ble_eq_true rfl) ?_
    rcases ab_iff h with ⟨hc, h⟩ | ⟨hc, h⟩
    · cases h
    cases h
    exact ru_ret (v := some (.int _)) ⟨_, rfl, congrArg Value.int (Classical.not_not.mp hc), dJ0_charAt_5068e_15⟩
theorem tm_J0_charAt_5068e {l : Launch} {g : ab_G} (hl0 : l.stackTraces = false) {d : Nat} (hd : 4 ≤ d) {l0 : Nat} {l1 : Int32} {m : ab_Mm} {z : (Int32 × ab_Mm)} (h : dd_J0_charAt_5068e l0 l1 m = some z) : ab_Met l g yJ0_charAt_5068e cJ0_charAt_5068e 2 (some .char) [] d [.ref l0, .int l1] m (.inl (some (.int z.1))) z.2 := by
  obtain ⟨d2, rfl⟩ : ∃ d2, d = d2 + 1 := ⟨d - 1, by omega⟩
  exact ab_of hl0 (by decide +kernel) (Nat.le_of_ble_eq_true rfl) (fun q => by cases q) rfl (te_J0_charAt_5068e hl0 hd _ _ _ _ h)
theorem tbb_J7_fill_d0a16_6 {l : Launch} {g : ab_G} (hl0 : l.stackTraces = false) {d2 : Nat} (hd : 1 ≤ d2 + 1)   : ∀ (n : Nat) (l0 : Nat) (l1 : Int64) (l3 : Int32) (l4 : Int32) (m0 : ab_Mm) (z : (Unit × ab_Mm)), bb_J7_fill_d0a16_6  n l0 l1 l3 l4 m0 = some z → ab_W l g cJ7_fill_d0a16 RJ7 5 none [] false (d2 + 1) (.inl none) z.2 6 [(0, .ref l0), (1, .long l1), (3, .int l3), (4, .int l4)] [] m0 := by
  intro n
  induction n with
  | zero => intro l0 l1 l3 l4 m0 z h; cases h
  | succ n ih =>
    intro l0 l1 l3 l4 m0 z h
    rw [bb_J7_fill_d0a16_6] at h
    refine ru_iload_n (i := 3) dJ7_fill_d0a16_6 rfl rfl <| ru_iload dJ7_fill_d0a16_7 rfl <| ?_
    refine ru_icmp_ge (tgt := 22) dJ7_fill_d0a16_9 (by decide) (fun hc => ?_) (fun hc => ?_)
    · rw [if_pos hc] at h
      cases h
      exact ru_ret (v := none) ⟨rfl, dJ7_fill_d0a16_22⟩
    · rw [if_neg hc] at h
      refine ru_aload_n (i := 0) dJ7_fill_d0a16_12 rfl rfl <| ru_iload_n (i := 3) dJ7_fill_d0a16_13 rfl rfl <| ru_lload_n (i := 1) dJ7_fill_d0a16_14 rfl rfl <| ?_
      refine ru_lastore h dJ7_fill_d0a16_15 ?_
      intro m1 h
      refine ru_iinc dJ7_fill_d0a16_16 (by decide) rfl (ab_inc kc_i_1) <| ru_goto (tgt := 6) dJ7_fill_d0a16_19 (by decide) <| ?_
      exact ru_pick [0, 1, 3, 4] rfl (ih _ _ _ _ _ _ h)
theorem te_J7_fill_d0a16 {l : Launch} {g : ab_G} (hl0 : l.stackTraces = false) {d2 : Nat} (hd : 1 ≤ d2 + 1)   (l0 : Nat) (l1 : Int64) (m0 : ab_Mm) (z : (Unit × ab_Mm)) (h : dd_J7_fill_d0a16  l0 l1 m0 = some z) : ab_W l g cJ7_fill_d0a16 RJ7 5 none [] false (d2 + 1) (.inl none) z.2 0 [(0, .ref l0), (1, .long l1)] [] m0 := by
  unfold dd_J7_fill_d0a16 at h
  refine ru_iconst dJ7_fill_d0a16_0 kc_i_0 <| ru_istore_n (i := 3) dJ7_fill_d0a16_1 rfl (by decide) <| ru_aload_n (i := 0) dJ7_fill_d0a16_2 rfl rfl <| ?_
  refine ru_alen 3 h dJ7_fill_d0a16_3 ?_
  intro v1 h
  refine ru_istore dJ7_fill_d0a16_4 (by decide) <| ?_
  exact ru_pick [0, 1, 3, 4] rfl (tbb_J7_fill_d0a16_6 hl0 hd   _ _ _ _ _ _ _ h)
theorem tm_J7_fill_d0a16 {l : Launch} {g : ab_G} (hl0 : l.stackTraces = false) {d : Nat} (hd : 1 ≤ d) {l0 : Nat} {l1 : Int64} {m : ab_Mm} {z : (Unit × ab_Mm)} (h : dd_J7_fill_d0a16 l0 l1 m = some z) : ab_Met l g yJ7_fill_d0a16 cJ7_fill_d0a16 5 none [] d [.ref l0, .long l1] m (.inl none) z.2 := by
  obtain ⟨d2, rfl⟩ : ∃ d2, d = d2 + 1 := ⟨d - 1, by omega⟩
  exact ab_of hl0 (by decide +kernel) (Nat.le_of_ble_eq_true rfl) (fun q => by cases q) rfl (te_J7_fill_d0a16 hl0 hd _ _ _ _ h)
