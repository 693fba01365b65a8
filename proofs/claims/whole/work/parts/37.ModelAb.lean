/-! ===== the methods keep to these functions (by program) ===== -/
theorem tm_X12_append {l : Launch} {g : ab_G} (hl0 : l.stackTraces = false) {d : Nat} (hd : 2 ≤ d) {l0 : Nat} {l1 : Int32} {l2 : Int32} {l3 : Int32} {l4 : Int32} {l5 : Int32} {m : ab_Mm} {z : (Int32 × ab_Mm)} (h : dd_X12_append l0 l1 l2 l3 l4 l5 m = some z) : ab_Met l g yX12_append cX12_append 6 (some .int) [] d [.ref l0, .int l1, .int l2, .int l3, .int l4, .int l5] m (.inl (some (.int z.1))) z.2 := by
  obtain ⟨d2, rfl⟩ : ∃ d2, d = d2 + 1 := ⟨d - 1, by omega⟩
  exact ab_of hl0 (by decide +kernel) (Nat.le_of_ble_eq_true rfl) (fun q => by cases q) rfl (te_X12_append hl0 hd _ _ _ _ _ _ _ _ h)
theorem tbb_X12_byteAt_22 {l : Launch} {g : ab_G} (hl0 : l.stackTraces = false) {d2 : Nat} (hd : 1 ≤ d2 + 1)   (s0 : Int32) (m0 : ab_Mm) (z : (Int32 × ab_Mm)) (h : bb_X12_byteAt_22  s0 m0 = some z) : ab_W l g cX12_byteAt RX12 2 (some .int) [] false (d2 + 1) (.inl (some (.int z.1))) z.2 22 [] [.int s0] m0 := by
  unfold bb_X12_byteAt_22 at h
  cases h
  exact ru_ret (v := some (.int _)) ⟨_, rfl, rfl, dX12_byteAt_22⟩
theorem te_X12_byteAt {l : Launch} {g : ab_G} (hl0 : l.stackTraces = false) {d2 : Nat} (hd : 1 ≤ d2 + 1)   (l0 : Nat) (l1 : Int32) (m0 : ab_Mm) (z : (Int32 × ab_Mm)) (h : dd_X12_byteAt  l0 l1 m0 = some z) : ab_W l g cX12_byteAt RX12 2 (some .int) [] false (d2 + 1) (.inl (some (.int z.1))) z.2 0 [(0, .ref l0), (1, .int l1)] [] m0 := by
  unfold dd_X12_byteAt at h
  refine ru_iload_n (i := 1) dX12_byteAt_0 rfl rfl <| ru_aload_n (i := 0) dX12_byteAt_1 rfl rfl <| ?_
  refine ru_getI h dX12_byteAt_2 lk_X12_101 ?_
  intro v1 h
  refine ru_icmp_ge (tgt := 21) dX12_byteAt_5 (by decide) (fun hc => ?_) (fun hc => ?_)
  · rw [if_pos hc] at h
    refine ru_iconst dX12_byteAt_21 kc_i_m1 <| ?_
    exact ru_pick [] rfl (tbb_X12_byteAt_22 hl0 hd   _ _ _ h)
  · rw [if_neg hc] at h
    refine ru_aload_n (i := 0) dX12_byteAt_8 rfl rfl <| ?_
    refine ru_getR h dX12_byteAt_9 lk_X12_35 ?_
    intro v2 h
    refine ru_iload_n (i := 1) dX12_byteAt_12 rfl rfl <| ?_
    refine ru_baload h dX12_byteAt_13 ?_
    intro v3 h
    refine ru_sipush dX12_byteAt_14 kc_s_255 <| ru_iand dX12_byteAt_17 <| ru_goto (tgt := 22) dX12_byteAt_18 (by decide) <| ?_
    exact ru_pick [] rfl (tbb_X12_byteAt_22 hl0 hd   _ _ _ h)
theorem tm_X12_byteAt {l : Launch} {g : ab_G} (hl0 : l.stackTraces = false) {d : Nat} (hd : 1 ≤ d) {l0 : Nat} {l1 : Int32} {m : ab_Mm} {z : (Int32 × ab_Mm)} (h : dd_X12_byteAt l0 l1 m = some z) : ab_Met l g yX12_byteAt cX12_byteAt 2 (some .int) [] d [.ref l0, .int l1] m (.inl (some (.int z.1))) z.2 := by
  obtain ⟨d2, rfl⟩ : ∃ d2, d = d2 + 1 := ⟨d - 1, by omega⟩
  exact ab_of hl0 (by decide +kernel) (Nat.le_of_ble_eq_true rfl) (fun q => by cases q) rfl (te_X12_byteAt hl0 hd _ _ _ _ h)
theorem tbb_X12_isSign_47 {l : Launch} {g : ab_G} (hl0 : l.stackTraces = false) {d2 : Nat} (hd : 1 ≤ d2 + 1)   (s0 : Int32) (m0 : ab_Mm) (z : (Int32 × ab_Mm)) (h : bb_X12_isSign_47  s0 m0 = some z) : ab_W l g cX12_isSign RX12 1 (some .boolean) [] false (d2 + 1) (.inl (some (.int z.1))) z.2 47 [] [.int s0] m0 := by
  unfold bb_X12_isSign_47 at h
  rcases ab_iff h with ⟨hc, h⟩ | ⟨hc, h⟩
  · cases h
  cases h
  exact ru_ret (v := some (.int _)) ⟨_, rfl, congrArg Value.int (Classical.not_not.mp hc), dX12_isSign_47⟩
theorem tbb_X12_isSign_42 {l : Launch} {g : ab_G} (hl0 : l.stackTraces = false) {d2 : Nat} (hd : 1 ≤ d2 + 1)    (m0 : ab_Mm) (z : (Int32 × ab_Mm)) (h : bb_X12_isSign_42   m0 = some z) : ab_W l g cX12_isSign RX12 1 (some .boolean) [] false (d2 + 1) (.inl (some (.int z.1))) z.2 42 [] [] m0 := by
  unfold bb_X12_isSign_42 at h
  refine ru_iconst dX12_isSign_42 kc_i_1 <| ru_goto (tgt := 47) dX12_isSign_43 (by decide) <| ?_
  exact ru_pick [] rfl (tbb_X12_isSign_47 hl0 hd   _ _ _ h)
theorem te_X12_isSign {l : Launch} {g : ab_G} (hl0 : l.stackTraces = false) {d2 : Nat} (hd : 1 ≤ d2 + 1)   (l0 : Int32) (m0 : ab_Mm) (z : (Int32 × ab_Mm)) (h : dd_X12_isSign  l0 m0 = some z) : ab_W l g cX12_isSign RX12 1 (some .boolean) [] false (d2 + 1) (.inl (some (.int z.1))) z.2 0 [(0, .int l0)] [] m0 := by
  unfold dd_X12_isSign at h
  refine ru_iload_n (i := 0) dX12_isSign_0 rfl rfl <| ru_bipush dX12_isSign_1 kc_b_59 <| ?_
  refine ru_icmp_eq (tgt := 42) dX12_isSign_3 (by decide) (fun hc => ?_) (fun hc => ?_)
  · rw [if_pos hc] at h
    exact ru_pick [] rfl (tbb_X12_isSign_42 hl0 hd    _ _ h)
  · rw [if_neg hc] at h
    refine ru_iload_n (i := 0) dX12_isSign_6 rfl rfl <| ru_bipush dX12_isSign_7 kc_b_40 <| ?_
    refine ru_icmp_eq (tgt := 42) dX12_isSign_9 (by decide) (fun hc => ?_) (fun hc => ?_)
    · rw [if_pos hc] at h
      exact ru_pick [] rfl (tbb_X12_isSign_42 hl0 hd    _ _ h)
    · rw [if_neg hc] at h
      refine ru_iload_n (i := 0) dX12_isSign_12 rfl rfl <| ru_bipush dX12_isSign_13 kc_b_41 <| ?_
      refine ru_icmp_eq (tgt := 42) dX12_isSign_15 (by decide) (fun hc => ?_) (fun hc => ?_)
      · rw [if_pos hc] at h
        exact ru_pick [] rfl (tbb_X12_isSign_42 hl0 hd    _ _ h)
      · rw [if_neg hc] at h
        refine ru_iload_n (i := 0) dX12_isSign_18 rfl rfl <| ru_bipush dX12_isSign_19 kc_b_43 <| ?_
        refine ru_icmp_eq (tgt := 42) dX12_isSign_21 (by decide) (fun hc => ?_) (fun hc => ?_)
        · rw [if_pos hc] at h
          exact ru_pick [] rfl (tbb_X12_isSign_42 hl0 hd    _ _ h)
        · rw [if_neg hc] at h
          refine ru_iload_n (i := 0) dX12_isSign_24 rfl rfl <| ru_bipush dX12_isSign_25 kc_b_45 <| ?_
          refine ru_icmp_eq (tgt := 42) dX12_isSign_27 (by decide) (fun hc => ?_) (fun hc => ?_)
          · rw [if_pos hc] at h
            exact ru_pick [] rfl (tbb_X12_isSign_42 hl0 hd    _ _ h)
          · rw [if_neg hc] at h
            refine ru_iload_n (i := 0) dX12_isSign_30 rfl rfl <| ru_bipush dX12_isSign_31 kc_b_42 <| ?_
            refine ru_icmp_eq (tgt := 42) dX12_isSign_33 (by decide) (fun hc => ?_) (fun hc => ?_)
            · rw [if_pos hc] at h
              exact ru_pick [] rfl (tbb_X12_isSign_42 hl0 hd    _ _ h)
            · rw [if_neg hc] at h
              refine ru_iload_n (i := 0) dX12_isSign_36 rfl rfl <| ru_bipush dX12_isSign_37 kc_b_47 <| ?_
              refine ru_icmp_ne (tgt := 46) dX12_isSign_39 (by decide) (fun hc => ?_) (fun hc => ?_)
              · rw [if_neg hc] at h
                refine ru_iconst dX12_isSign_46 kc_i_0 <| ?_
                exact ru_pick [] rfl (tbb_X12_isSign_47 hl0 hd   _ _ _ h)
              · rw [if_pos hc] at h
                exact ru_pick [] rfl (tbb_X12_isSign_42 hl0 hd    _ _ h)
theorem tm_X12_isSign {l : Launch} {g : ab_G} (hl0 : l.stackTraces = false) {d : Nat} (hd : 1 ≤ d) {l0 : Int32} {m : ab_Mm} {z : (Int32 × ab_Mm)} (h : dd_X12_isSign l0 m = some z) : ab_Met l g yX12_isSign cX12_isSign 1 (some .boolean) [] d [.int l0] m (.inl (some (.int z.1))) z.2 := by
  obtain ⟨d2, rfl⟩ : ∃ d2, d = d2 + 1 := ⟨d - 1, by omega⟩
  exact ab_of hl0 (by decide +kernel) (Nat.le_of_ble_eq_true rfl) (fun q => by cases q) rfl (te_X12_isSign hl0 hd _ _ _ h)
theorem tbb_X12_advance_295 {l : Launch} {g : ab_G} (hl0 : l.stackTraces = false) {d2 : Nat} (hd : 2 ≤ d2 + 1)    (m0 : ab_Mm) (z : (Unit × ab_Mm)) (h : bb_X12_advance_295   m0 = some z) : ab_W l g cX12_advance RX12 2 none [] false (d2 + 1) (.inl none) z.2 295 [] [] m0 := by
  unfold bb_X12_advance_295 at h
  cases h
  exact ru_ret (v := none) ⟨rfl, dX12_advance_295⟩
theorem tbb_X12_advance_292 {l : Launch} {g : ab_G} (hl0 : l.stackTraces = false) {d2 : Nat} (hd : 2 ≤ d2 + 1)   (s0 : Nat) (s1 : Int32) (m0 : ab_Mm) (z : (Unit × ab_Mm)) (h : bb_X12_advance_292  s0 s1 m0 = some z) : ab_W l g cX12_advance RX12 2 none [] false (d2 + 1) (.inl none) z.2 292 [] [.int s1, .ref s0] m0 := by
  unfold bb_X12_advance_292 at h
  refine ru_putI h dX12_advance_292 lk_X12_117 ?_
  intro m1 h
  exact ru_pick [] rfl (tbb_X12_advance_295 hl0 hd    _ _ h)
theorem tbb_X12_advance_258 {l : Launch} {g : ab_G} (hl0 : l.stackTraces = false) {d2 : Nat} (hd : 2 ≤ d2 + 1)   (s0 : Nat) (s1 : Int32) (m0 : ab_Mm) (z : (Unit × ab_Mm)) (h : bb_X12_advance_258  s0 s1 m0 = some z) : ab_W l g cX12_advance RX12 2 none [] false (d2 + 1) (.inl none) z.2 258 [] [.int s1, .ref s0] m0 := by
  unfold bb_X12_advance_258 at h
  refine ru_putI h dX12_advance_258 lk_X12_117 ?_
  intro m1 h
  refine ru_goto (tgt := 295) dX12_advance_261 (by decide) <| ?_
  exact ru_pick [] rfl (tbb_X12_advance_295 hl0 hd    _ _ h)
theorem tbb_X12_advance_223 {l : Launch} {g : ab_G} (hl0 : l.stackTraces = false) {d2 : Nat} (hd : 2 ≤ d2 + 1) (r162 : Nat → ab_Mm → Option (Unit × ab_Mm)) (hr162 : ∀ (l0 : Nat) (m : ab_Mm) (z : (Unit × ab_Mm)), r162 l0 m = some z → ab_W l g cX12_advance RX12 2 none [] false (d2 + 1) (.inl none) z.2 162 [(0, .ref l0)] [] m) (l0 : Nat) (s0 : Nat) (s1 : Int32) (m0 : ab_Mm) (z : (Unit × ab_Mm)) (h : bb_X12_advance_223 r162 l0 s0 s1 m0 = some z) : ab_W l g cX12_advance RX12 2 none [] false (d2 + 1) (.inl none) z.2 223 [(0, .ref l0)] [.int s1, .ref s0] m0 := by
  unfold bb_X12_advance_223 at h
  refine ru_putI h dX12_advance_223 lk_X12_114 ?_
  intro m1 h
  refine ru_aload_n (i := 0) dX12_advance_226 rfl rfl <| ru_dup dX12_advance_227 rfl <| ?_
  refine ru_getI h dX12_advance_228 lk_X12_104 ?_
  intro v2 h
  refine ru_iconst dX12_advance_231 kc_i_1 <| ru_iadd dX12_advance_232 <| ?_
  refine ru_putI h dX12_advance_233 lk_X12_104 ?_
  intro m3 h
  refine ru_goto (tgt := 162) dX12_advance_236 (by decide) <| ?_
  exact ru_pick [0] rfl (hr162 _ _ _ h)
theorem tbb_X12_advance_162 {l : Launch} {g : ab_G} (hl0 : l.stackTraces = false) {d2 : Nat} (hd : 2 ≤ d2 + 1)   : ∀ (n : Nat) (l0 : Nat) (m0 : ab_Mm) (z : (Unit × ab_Mm)), bb_X12_advance_162  n l0 m0 = some z → ab_W l g cX12_advance RX12 2 none [] false (d2 + 1) (.inl none) z.2 162 [(0, .ref l0)] [] m0 := by
  intro n
  induction n with
  | zero => intro l0 m0 z h; cases h
  | succ n ih =>
    intro l0 m0 z h
    rw [bb_X12_advance_162] at h
    refine ru_aload_n (i := 0) dX12_advance_162 rfl rfl <| ru_aload_n (i := 0) dX12_advance_163 rfl rfl <| ?_
    refine ru_getI h dX12_advance_164 lk_X12_104 ?_
    intro v1 h
    obtain ⟨_, hrc, h⟩ := Option.bind_eq_some_iff.mp h
    obtain ⟨q2, hq2, h⟩ := Option.bind_eq_some_iff.mp h
    refine ru_callV (tm_X12_byteAt hl0 (by omega) hq2) dX12_advance_167 rfl pm_X12_107 mf_X12_byteAt (ab_rcv_of hrc rfl) rfl rfl (Nat.le_of_ble_eq_true rfl) ?_
    refine ru_i2l dX12_advance_170 <| ru_ldc2_w dX12_advance_171 pk_X12_128 <| ru_ldc2_w dX12_advance_174 pk_X12_130 <| ?_
    obtain ⟨q3, hq3, h⟩ := Option.bind_eq_some_iff.mp h
    refine ru_callS (tm_X12_within hl0 (by omega) hq3) dX12_advance_177 rfl pm_X12_124 mf_X12_within rfl rfl (Nat.le_of_ble_eq_true rfl) ?_
    refine ru_if_eq (tgt := 239) dX12_advance_180 (by decide) (fun hc => ?_) (fun hc => ?_)
    · rw [if_pos hc] at h
      refine ru_aload_n (i := 0) dX12_advance_239 rfl rfl <| ru_aload_n (i := 0) dX12_advance_240 rfl rfl <| ?_
      refine ru_getI h dX12_advance_241 lk_X12_104 ?_
      intro v4 h
      refine ru_aload_n (i := 0) dX12_advance_244 rfl rfl <| ?_
      refine ru_getI h dX12_advance_245 lk_X12_111 ?_
      intro v5 h
      refine ru_isub dX12_advance_248 <| ru_iconst dX12_advance_249 kc_i_4 <| ?_
      refine ru_icmp_le (tgt := 257) dX12_advance_250 (by decide) (fun hc => ?_) (fun hc => ?_)
      · rw [if_pos hc] at h
        refine ru_iconst dX12_advance_257 kc_i_2 <| ?_
        exact ru_pick [] rfl (tbb_X12_advance_258 hl0 hd   _ _ _ _ h)
      · rw [if_neg hc] at h
        refine ru_iconst dX12_advance_253 kc_i_4 <| ru_goto (tgt := 258) dX12_advance_254 (by decide) <| ?_
        exact ru_pick [] rfl (tbb_X12_advance_258 hl0 hd   _ _ _ _ h)
    · rw [if_neg hc] at h
      refine ru_aload_n (i := 0) dX12_advance_183 rfl rfl <| ru_aload_n (i := 0) dX12_advance_184 rfl rfl <| ?_
      refine ru_getI h dX12_advance_185 lk_X12_104 ?_
      intro v6 h
      refine ru_aload_n (i := 0) dX12_advance_188 rfl rfl <| ?_
      refine ru_getI h dX12_advance_189 lk_X12_111 ?_
      intro v7 h
      refine ru_isub dX12_advance_192 <| ru_iconst dX12_advance_193 kc_i_4 <| ?_
      refine ru_icmp_ge (tgt := 219) dX12_advance_194 (by decide) (fun hc => ?_) (fun hc => ?_)
      · rw [if_pos hc] at h
        refine ru_aload_n (i := 0) dX12_advance_219 rfl rfl <| ?_
        refine ru_getI h dX12_advance_220 lk_X12_114 ?_
        intro v8 h
        exact ru_pick [0] rfl (tbb_X12_advance_223 hl0 hd _ ih _ _ _ _ _ h)
      · rw [if_neg hc] at h
        refine ru_bipush dX12_advance_197 kc_b_10 <| ru_aload_n (i := 0) dX12_advance_199 rfl rfl <| ?_
        refine ru_getI h dX12_advance_200 lk_X12_114 ?_
        intro v9 h
        refine ru_imul dX12_advance_203 <| ru_aload_n (i := 0) dX12_advance_204 rfl rfl <| ru_aload_n (i := 0) dX12_advance_205 rfl rfl <| ?_
        refine ru_getI h dX12_advance_206 lk_X12_104 ?_
        intro v10 h
        obtain ⟨_, hrc, h⟩ := Option.bind_eq_some_iff.mp h
        obtain ⟨q11, hq11, h⟩ := Option.bind_eq_some_iff.mp h
        refine ru_callV (tm_X12_byteAt hl0 (by omega) hq11) dX12_advance_209 rfl pm_X12_107 mf_X12_byteAt (ab_rcv_of hrc rfl) rfl rfl (Nat.le_of_ble_eq_true rfl) ?_
        refine ru_iadd dX12_advance_212 <| ru_bipush dX12_advance_213 kc_b_48 <| ru_isub dX12_advance_215 <| ru_goto (tgt := 223) dX12_advance_216 (by decide) <| ?_
        exact ru_pick [0] rfl (tbb_X12_advance_223 hl0 hd _ ih _ _ _ _ _ h)
theorem tbb_X12_advance_142 {l : Launch} {g : ab_G} (hl0 : l.stackTraces = false) {d2 : Nat} (hd : 2 ≤ d2 + 1)   (s0 : Nat) (s1 : Int32) (m0 : ab_Mm) (z : (Unit × ab_Mm)) (h : bb_X12_advance_142  s0 s1 m0 = some z) : ab_W l g cX12_advance RX12 2 none [] false (d2 + 1) (.inl none) z.2 142 [] [.int s1, .ref s0] m0 := by
  unfold bb_X12_advance_142 at h
  refine ru_putI h dX12_advance_142 lk_X12_117 ?_
  intro m1 h
  refine ru_goto (tgt := 295) dX12_advance_145 (by decide) <| ?_
  exact ru_pick [] rfl (tbb_X12_advance_295 hl0 hd    _ _ h)
theorem tbb_X12_advance_88 {l : Launch} {g : ab_G} (hl0 : l.stackTraces = false) {d2 : Nat} (hd : 2 ≤ d2 + 1)   : ∀ (n : Nat) (l0 : Nat) (m0 : ab_Mm) (z : (Unit × ab_Mm)), bb_X12_advance_88  n l0 m0 = some z → ab_W l g cX12_advance RX12 2 none [] false (d2 + 1) (.inl none) z.2 88 [(0, .ref l0)] [] m0 := by
  intro n
  induction n with
  | zero => intro l0 m0 z h; cases h
  | succ n ih =>
    intro l0 m0 z h
    rw [bb_X12_advance_88] at h
    refine ru_aload_n (i := 0) dX12_advance_88 rfl rfl <| ru_aload_n (i := 0) dX12_advance_89 rfl rfl <| ?_
    refine ru_getI h dX12_advance_90 lk_X12_104 ?_
    intro v1 h
    obtain ⟨_, hrc, h⟩ := Option.bind_eq_some_iff.mp h
    obtain ⟨q2, hq2, h⟩ := Option.bind_eq_some_iff.mp h
    refine ru_callV (tm_X12_byteAt hl0 (by omega) hq2) dX12_advance_93 rfl pm_X12_107 mf_X12_byteAt (ab_rcv_of hrc rfl) rfl rfl (Nat.le_of_ble_eq_true rfl) ?_
    refine ru_i2l dX12_advance_96 <| ru_ldc2_w dX12_advance_97 pk_X12_120 <| ru_ldc2_w dX12_advance_100 pk_X12_122 <| ?_
    obtain ⟨q3, hq3, h⟩ := Option.bind_eq_some_iff.mp h
    refine ru_callS (tm_X12_within hl0 (by omega) hq3) dX12_advance_103 rfl pm_X12_124 mf_X12_within rfl rfl (Nat.le_of_ble_eq_true rfl) ?_
    refine ru_if_eq (tgt := 122) dX12_advance_106 (by decide) (fun hc => ?_) (fun hc => ?_)
    · rw [if_pos hc] at h
      refine ru_aload_n (i := 0) dX12_advance_122 rfl rfl <| ru_aload_n (i := 0) dX12_advance_123 rfl rfl <| ?_
      refine ru_getI h dX12_advance_124 lk_X12_104 ?_
      intro v4 h
      refine ru_aload_n (i := 0) dX12_advance_127 rfl rfl <| ?_
      refine ru_getI h dX12_advance_128 lk_X12_111 ?_
      intro v5 h
      refine ru_isub dX12_advance_131 <| ru_bipush dX12_advance_132 kc_b_8 <| ?_
      refine ru_icmp_le (tgt := 141) dX12_advance_134 (by decide) (fun hc => ?_) (fun hc => ?_)
      · rw [if_pos hc] at h
        refine ru_iconst dX12_advance_141 kc_i_1 <| ?_
        exact ru_pick [] rfl (tbb_X12_advance_142 hl0 hd   _ _ _ _ h)
      · rw [if_neg hc] at h
        refine ru_iconst dX12_advance_137 kc_i_4 <| ru_goto (tgt := 142) dX12_advance_138 (by decide) <| ?_
        exact ru_pick [] rfl (tbb_X12_advance_142 hl0 hd   _ _ _ _ h)
    · rw [if_neg hc] at h
      refine ru_aload_n (i := 0) dX12_advance_109 rfl rfl <| ru_dup dX12_advance_110 rfl <| ?_
      refine ru_getI h dX12_advance_111 lk_X12_104 ?_
      intro v6 h
      refine ru_iconst dX12_advance_114 kc_i_1 <| ru_iadd dX12_advance_115 <| ?_
      refine ru_putI h dX12_advance_116 lk_X12_104 ?_
      intro m7 h
      refine ru_goto (tgt := 88) dX12_advance_119 (by decide) <| ?_
      exact ru_pick [0] rfl (ih _ _ _ h)
theorem tbb_X12_advance_26 {l : Launch} {g : ab_G} (hl0 : l.stackTraces = false) {d2 : Nat} (hd : 2 ≤ d2 + 1) (r0 : Nat → ab_Mm → Option (Unit × ab_Mm)) (hr0 : ∀ (l0 : Nat) (m : ab_Mm) (z : (Unit × ab_Mm)), r0 l0 m = some z → ab_W l g cX12_advance RX12 2 none [] false (d2 + 1) (.inl none) z.2 0 [(0, .ref l0)] [] m) (l0 : Nat) (m0 : ab_Mm) (z : (Unit × ab_Mm)) (h : bb_X12_advance_26 r0 l0 m0 = some z) : ab_W l g cX12_advance RX12 2 none [] false (d2 + 1) (.inl none) z.2 26 [(0, .ref l0)] [] m0 := by
  unfold bb_X12_advance_26 at h
  refine ru_aload_n (i := 0) dX12_advance_26 rfl rfl <| ru_dup dX12_advance_27 rfl <| ?_
  refine ru_getI h dX12_advance_28 lk_X12_104 ?_
  intro v1 h
  refine ru_iconst dX12_advance_31 kc_i_1 <| ru_iadd dX12_advance_32 <| ?_
  refine ru_putI h dX12_advance_33 lk_X12_104 ?_
  intro m2 h
  refine ru_goto (tgt := 0) dX12_advance_36 (by decide) <| ?_
  exact ru_pick [0] rfl (hr0 _ _ _ h)
theorem tbb_X12_advance_0 {l : Launch} {g : ab_G} (hl0 : l.stackTraces = false) {d2 : Nat} (hd : 2 ≤ d2 + 1)   : ∀ (n : Nat) (l0 : Nat) (m0 : ab_Mm) (z : (Unit × ab_Mm)), bb_X12_advance_0  n l0 m0 = some z → ab_W l g cX12_advance RX12 2 none [] false (d2 + 1) (.inl none) z.2 0 [(0, .ref l0)] [] m0 := by
  intro n
  induction n with
  | zero => intro l0 m0 z h; cases h
  | succ n ih =>
    intro l0 m0 z h
    rw [bb_X12_advance_0] at h
    refine ru_aload_n (i := 0) dX12_advance_0 rfl rfl <| ru_aload_n (i := 0) dX12_advance_1 rfl rfl <| ?_
    refine ru_getI h dX12_advance_2 lk_X12_104 ?_
    intro v1 h
    obtain ⟨_, hrc, h⟩ := Option.bind_eq_some_iff.mp h
    obtain ⟨q2, hq2, h⟩ := Option.bind_eq_some_iff.mp h
    refine ru_callV (tm_X12_byteAt hl0 (by omega) hq2) dX12_advance_5 rfl pm_X12_107 mf_X12_byteAt (ab_rcv_of hrc rfl) rfl rfl (Nat.le_of_ble_eq_true rfl) ?_
    refine ru_bipush dX12_advance_8 kc_b_32 <| ?_
    refine ru_icmp_eq (tgt := 26) dX12_advance_10 (by decide) (fun hc => ?_) (fun hc => ?_)
    · rw [if_pos hc] at h
      exact ru_pick [0] rfl (tbb_X12_advance_26 hl0 hd _ ih _ _ _ h)
    · rw [if_neg hc] at h
      refine ru_aload_n (i := 0) dX12_advance_13 rfl rfl <| ru_aload_n (i := 0) dX12_advance_14 rfl rfl <| ?_
      refine ru_getI h dX12_advance_15 lk_X12_104 ?_
      intro v3 h
      obtain ⟨_, hrc, h⟩ := Option.bind_eq_some_iff.mp h
      obtain ⟨q4, hq4, h⟩ := Option.bind_eq_some_iff.mp h
      refine ru_callV (tm_X12_byteAt hl0 (by omega) hq4) dX12_advance_18 rfl pm_X12_107 mf_X12_byteAt (ab_rcv_of hrc rfl) rfl rfl (Nat.le_of_ble_eq_true rfl) ?_
      refine ru_bipush dX12_advance_21 kc_b_10 <| ?_
      refine ru_icmp_ne (tgt := 39) dX12_advance_23 (by decide) (fun hc => ?_) (fun hc => ?_)
      · rw [if_neg hc] at h
        refine ru_aload_n (i := 0) dX12_advance_39 rfl rfl <| ru_aload_n (i := 0) dX12_advance_40 rfl rfl <| ?_
        refine ru_getI h dX12_advance_41 lk_X12_104 ?_
        intro v5 h
        refine ru_putI h dX12_advance_44 lk_X12_111 ?_
        intro m6 h
        refine ru_aload_n (i := 0) dX12_advance_47 rfl rfl <| ru_iconst dX12_advance_48 kc_i_0 <| ?_
        refine ru_putI h dX12_advance_49 lk_X12_114 ?_
        intro m7 h
        refine ru_aload_n (i := 0) dX12_advance_52 rfl rfl <| ru_aload_n (i := 0) dX12_advance_53 rfl rfl <| ?_
        refine ru_getI h dX12_advance_54 lk_X12_104 ?_
        intro v8 h
        obtain ⟨_, hrc, h⟩ := Option.bind_eq_some_iff.mp h
        obtain ⟨q9, hq9, h⟩ := Option.bind_eq_some_iff.mp h
        refine ru_callV (tm_X12_byteAt hl0 (by omega) hq9) dX12_advance_57 rfl pm_X12_107 mf_X12_byteAt (ab_rcv_of hrc rfl) rfl rfl (Nat.le_of_ble_eq_true rfl) ?_
        refine ru_istore_n (i := 1) dX12_advance_60 rfl (by decide) <| ru_iload_n (i := 1) dX12_advance_61 rfl rfl <| ru_iconst dX12_advance_62 kc_i_m1 <| ?_
        refine ru_icmp_ne (tgt := 74) dX12_advance_63 (by decide) (fun hc => ?_) (fun hc => ?_)
        · rw [if_neg hc] at h
          refine ru_iload_n (i := 1) dX12_advance_74 rfl rfl <| ru_i2l dX12_advance_75 <| ru_ldc2_w dX12_advance_76 pk_X12_120 <| ru_ldc2_w dX12_advance_79 pk_X12_122 <| ?_
          obtain ⟨q10, hq10, h⟩ := Option.bind_eq_some_iff.mp h
          refine ru_callS (tm_X12_within hl0 (by omega) hq10) dX12_advance_82 rfl pm_X12_124 mf_X12_within rfl rfl (Nat.le_of_ble_eq_true rfl) ?_
          refine ru_if_eq (tgt := 148) dX12_advance_85 (by decide) (fun hc => ?_) (fun hc => ?_)
          · rw [if_pos hc] at h
            refine ru_iload_n (i := 1) dX12_advance_148 rfl rfl <| ru_i2l dX12_advance_149 <| ru_ldc2_w dX12_advance_150 pk_X12_128 <| ru_ldc2_w dX12_advance_153 pk_X12_130 <| ?_
            obtain ⟨q11, hq11, h⟩ := Option.bind_eq_some_iff.mp h
            refine ru_callS (tm_X12_within hl0 (by omega) hq11) dX12_advance_156 rfl pm_X12_124 mf_X12_within rfl rfl (Nat.le_of_ble_eq_true rfl) ?_
            refine ru_if_eq (tgt := 264) dX12_advance_159 (by decide) (fun hc => ?_) (fun hc => ?_)
            · rw [if_pos hc] at h
              refine ru_aload_n (i := 0) dX12_advance_264 rfl rfl <| ru_dup dX12_advance_265 rfl <| ?_
              refine ru_getI h dX12_advance_266 lk_X12_104 ?_
              intro v12 h
              refine ru_iconst dX12_advance_269 kc_i_1 <| ru_iadd dX12_advance_270 <| ?_
              refine ru_putI h dX12_advance_271 lk_X12_104 ?_
              intro m13 h
              refine ru_aload_n (i := 0) dX12_advance_274 rfl rfl <| ru_iload_n (i := 1) dX12_advance_275 rfl rfl <| ?_
              refine ru_putI h dX12_advance_276 lk_X12_114 ?_
              intro m14 h
              refine ru_aload_n (i := 0) dX12_advance_279 rfl rfl <| ru_iload_n (i := 1) dX12_advance_280 rfl rfl <| ?_
              obtain ⟨q15, hq15, h⟩ := Option.bind_eq_some_iff.mp h
              refine ru_callS (tm_X12_isSign hl0 (by omega) hq15) dX12_advance_281 rfl pm_X12_132 mf_X12_isSign rfl rfl (Nat.le_of_ble_eq_true rfl) ?_
              refine ru_if_eq (tgt := 291) dX12_advance_284 (by decide) (fun hc => ?_) (fun hc => ?_)
              · rw [if_pos hc] at h
                refine ru_iconst dX12_advance_291 kc_i_4 <| ?_
                exact ru_pick [] rfl (tbb_X12_advance_292 hl0 hd   _ _ _ _ h)
              · rw [if_neg hc] at h
                refine ru_iconst dX12_advance_287 kc_i_3 <| ru_goto (tgt := 292) dX12_advance_288 (by decide) <| ?_
                exact ru_pick [] rfl (tbb_X12_advance_292 hl0 hd   _ _ _ _ h)
            · rw [if_neg hc] at h
              exact ru_pick [0] rfl (tbb_X12_advance_162 hl0 hd   _ _ _ _ h)
          · rw [if_neg hc] at h
            exact ru_pick [0] rfl (tbb_X12_advance_88 hl0 hd   _ _ _ _ h)
        · rw [if_pos hc] at h
          refine ru_aload_n (i := 0) dX12_advance_66 rfl rfl <| ru_iconst dX12_advance_67 kc_i_0 <| ?_
          refine ru_putI h dX12_advance_68 lk_X12_117 ?_
          intro m16 h
          refine ru_goto (tgt := 295) dX12_advance_71 (by decide) <| ?_
          exact ru_pick [] rfl (tbb_X12_advance_295 hl0 hd    _ _ h)
      · rw [if_pos hc] at h
        exact ru_pick [0] rfl (tbb_X12_advance_26 hl0 hd _ ih _ _ _ h)
theorem te_X12_advance {l : Launch} {g : ab_G} (hl0 : l.stackTraces = false) {d2 : Nat} (hd : 2 ≤ d2 + 1)   (l0 : Nat) (m0 : ab_Mm) (z : (Unit × ab_Mm)) (h : dd_X12_advance  l0 m0 = some z) : ab_W l g cX12_advance RX12 2 none [] false (d2 + 1) (.inl none) z.2 0 [(0, .ref l0)] [] m0 := by
  unfold dd_X12_advance at h
  exact ru_pick [0] rfl (tbb_X12_advance_0 hl0 hd   _ _ _ _ h)
theorem tm_X12_advance {l : Launch} {g : ab_G} (hl0 : l.stackTraces = false) {d : Nat} (hd : 2 ≤ d) {l0 : Nat} {m : ab_Mm} {z : (Unit × ab_Mm)} (h : dd_X12_advance l0 m = some z) : ab_Met l g yX12_advance cX12_advance 2 none [] d [.ref l0] m (.inl none) z.2 := by
  obtain ⟨d2, rfl⟩ : ∃ d2, d = d2 + 1 := ⟨d - 1, by omega⟩
  exact ab_of hl0 (by decide +kernel) (Nat.le_of_ble_eq_true rfl) (fun q => by cases q) rfl (te_X12_advance hl0 hd _ _ _ h)
theorem tbb_X12_isWord_75 {l : Launch} {g : ab_G} (hl0 : l.stackTraces = false) {d2 : Nat} (hd : 5 ≤ d2 + 1)   (l2 : Int32) (m0 : ab_Mm) (z : (Int32 × ab_Mm)) (h : bb_X12_isWord_75  l2 m0 = some z) : ab_W l g cX12_isWord RX12 4 (some .boolean) [] false (d2 + 1) (.inl (some (.int z.1))) z.2 75 [(2, .int l2)] [] m0 := by
  unfold bb_X12_isWord_75 at h
  refine ru_iload_n (i := 2) dX12_isWord_75 rfl rfl <| ?_
  rcases ab_iff h with ⟨hc, h⟩ | ⟨hc, h⟩
  · cases h
  cases h
  exact ru_ret (v := some (.int _)) ⟨_, rfl, congrArg Value.int (Classical.not_not.mp hc), dX12_isWord_76⟩
theorem tbb_X12_isWord_68 {l : Launch} {g : ab_G} (hl0 : l.stackTraces = false) {d2 : Nat} (hd : 5 ≤ d2 + 1) (r32 : Nat → Nat → Int32 → Int32 → ab_Mm → Option (Int32 × ab_Mm)) (hr32 : ∀ (l0 : Nat) (l1 : Nat) (l2 : Int32) (l3 : Int32) (m : ab_Mm) (z : (Int32 × ab_Mm)), r32 l0 l1 l2 l3 m = some z → ab_W l g cX12_isWord RX12 4 (some .boolean) [] false (d2 + 1) (.inl (some (.int z.1))) z.2 32 [(0, .ref l0), (1, .ref l1), (2, .int l2), (3, .int l3)] [] m) (l0 : Nat) (l1 : Nat) (l3 : Int32) (s0 : Int32) (m0 : ab_Mm) (z : (Int32 × ab_Mm)) (h : bb_X12_isWord_68 r32 l0 l1 l3 s0 m0 = some z) : ab_W l g cX12_isWord RX12 4 (some .boolean) [] false (d2 + 1) (.inl (some (.int z.1))) z.2 68 [(0, .ref l0), (1, .ref l1), (3, .int l3)] [.int s0] m0 := by
  unfold bb_X12_isWord_68 at h
  refine ru_istore_n (i := 2) dX12_isWord_68 rfl (by decide) <| ru_iinc dX12_isWord_69 (by decide) rfl (ab_inc kc_i_1) <| ru_goto (tgt := 32) dX12_isWord_72 (by decide) <| ?_
  exact ru_pick [0, 1, 2, 3] rfl (hr32 _ _ _ _ _ _ h)
theorem tbb_X12_isWord_32 {l : Launch} {g : ab_G} (hl0 : l.stackTraces = false) {d2 : Nat} (hd : 5 ≤ d2 + 1)   : ∀ (n : Nat) (l0 : Nat) (l1 : Nat) (l2 : Int32) (l3 : Int32) (m0 : ab_Mm) (z : (Int32 × ab_Mm)), bb_X12_isWord_32  n l0 l1 l2 l3 m0 = some z → ab_W l g cX12_isWord RX12 4 (some .boolean) [] false (d2 + 1) (.inl (some (.int z.1))) z.2 32 [(0, .ref l0), (1, .ref l1), (2, .int l2), (3, .int l3)] [] m0 := by
  intro n
  induction n with
  | zero => intro l0 l1 l2 l3 m0 z h; cases h
  | succ n ih =>
    intro l0 l1 l2 l3 m0 z h
    rw [bb_X12_isWord_32] at h
    refine ru_iload_n (i := 3) dX12_isWord_32 rfl rfl <| ru_aload_n (i := 1) dX12_isWord_33 rfl rfl <| ?_
    obtain ⟨_, hrc, h⟩ := Option.bind_eq_some_iff.mp h
    obtain ⟨q1, hq1, h⟩ := Option.bind_eq_some_iff.mp h
    refine ru_callV (tm_J0_length_8abf5 hl0 (by omega) hq1) dX12_isWord_34 rfl pm_X12_135 mf_J0_length_8abf5 (ab_rcv_s hrc) rfl rfl (Nat.le_of_ble_eq_true rfl) ?_
    refine ru_icmp_ge (tgt := 75) dX12_isWord_37 (by decide) (fun hc => ?_) (fun hc => ?_)
    · rw [if_pos hc] at h
      exact ru_pick [2] rfl (tbb_X12_isWord_75 hl0 hd   _ _ _ h)
    · rw [if_neg hc] at h
      refine ru_iload_n (i := 2) dX12_isWord_40 rfl rfl <| ?_
      refine ru_if_eq (tgt := 75) dX12_isWord_41 (by decide) (fun hc => ?_) (fun hc => ?_)
      · rw [if_pos hc] at h
        exact ru_pick [2] rfl (tbb_X12_isWord_75 hl0 hd   _ _ _ h)
      · rw [if_neg hc] at h
        refine ru_aload_n (i := 0) dX12_isWord_44 rfl rfl <| ?_
        refine ru_getR h dX12_isWord_45 lk_X12_35 ?_
        intro v2 h
        refine ru_aload_n (i := 0) dX12_isWord_48 rfl rfl <| ?_
        refine ru_getI h dX12_isWord_49 lk_X12_111 ?_
        intro v3 h
        refine ru_iload_n (i := 3) dX12_isWord_52 rfl rfl <| ru_iadd dX12_isWord_53 <| ?_
        refine ru_baload h dX12_isWord_54 ?_
        intro v4 h
        refine ru_aload_n (i := 1) dX12_isWord_55 rfl rfl <| ru_iload_n (i := 3) dX12_isWord_56 rfl rfl <| ?_
        obtain ⟨_, hrc, h⟩ := Option.bind_eq_some_iff.mp h
        obtain ⟨q5, hq5, h⟩ := Option.bind_eq_some_iff.mp h
        refine ru_callV (tm_J0_charAt_5068e hl0 (by omega) hq5) dX12_isWord_57 rfl pm_X12_140 mf_J0_charAt_5068e (ab_rcv_s hrc) rfl rfl (Nat.le_of_ble_eq_true rfl) ?_
        refine ru_icmp_ne (tgt := 67) dX12_isWord_60 (by decide) (fun hc => ?_) (fun hc => ?_)
        · rw [if_neg hc] at h
          refine ru_iconst dX12_isWord_67 kc_i_0 <| ?_
          exact ru_pick [0, 1, 3] rfl (tbb_X12_isWord_68 hl0 hd _ ih _ _ _ _ _ _ h)
        · rw [if_pos hc] at h
          refine ru_iconst dX12_isWord_63 kc_i_1 <| ru_goto (tgt := 68) dX12_isWord_64 (by decide) <| ?_
          exact ru_pick [0, 1, 3] rfl (tbb_X12_isWord_68 hl0 hd _ ih _ _ _ _ _ _ h)
theorem tbb_X12_isWord_29 {l : Launch} {g : ab_G} (hl0 : l.stackTraces = false) {d2 : Nat} (hd : 5 ≤ d2 + 1)   (l0 : Nat) (l1 : Nat) (s0 : Int32) (m0 : ab_Mm) (z : (Int32 × ab_Mm)) (h : bb_X12_isWord_29  l0 l1 s0 m0 = some z) : ab_W l g cX12_isWord RX12 4 (some .boolean) [] false (d2 + 1) (.inl (some (.int z.1))) z.2 29 [(0, .ref l0), (1, .ref l1)] [.int s0] m0 := by
  unfold bb_X12_isWord_29 at h
  refine ru_istore_n (i := 2) dX12_isWord_29 rfl (by decide) <| ru_iconst dX12_isWord_30 kc_i_0 <| ru_istore_n (i := 3) dX12_isWord_31 rfl (by decide) <| ?_
  exact ru_pick [0, 1, 2, 3] rfl (tbb_X12_isWord_32 hl0 hd   _ _ _ _ _ _ _ h)
theorem tbb_X12_isWord_28 {l : Launch} {g : ab_G} (hl0 : l.stackTraces = false) {d2 : Nat} (hd : 5 ≤ d2 + 1)   (l0 : Nat) (l1 : Nat) (m0 : ab_Mm) (z : (Int32 × ab_Mm)) (h : bb_X12_isWord_28  l0 l1 m0 = some z) : ab_W l g cX12_isWord RX12 4 (some .boolean) [] false (d2 + 1) (.inl (some (.int z.1))) z.2 28 [(0, .ref l0), (1, .ref l1)] [] m0 := by
  unfold bb_X12_isWord_28 at h
  refine ru_iconst dX12_isWord_28 kc_i_0 <| ?_
  exact ru_pick [0, 1] rfl (tbb_X12_isWord_29 hl0 hd   _ _ _ _ _ h)
theorem te_X12_isWord {l : Launch} {g : ab_G} (hl0 : l.stackTraces = false) {d2 : Nat} (hd : 5 ≤ d2 + 1)   (l0 : Nat) (l1 : Nat) (m0 : ab_Mm) (z : (Int32 × ab_Mm)) (h : dd_X12_isWord  l0 l1 m0 = some z) : ab_W l g cX12_isWord RX12 4 (some .boolean) [] false (d2 + 1) (.inl (some (.int z.1))) z.2 0 [(0, .ref l0), (1, .ref l1)] [] m0 := by
  unfold dd_X12_isWord at h
  refine ru_aload_n (i := 0) dX12_isWord_0 rfl rfl <| ?_
  refine ru_getI h dX12_isWord_1 lk_X12_117 ?_
  intro v1 h
  refine ru_iconst dX12_isWord_4 kc_i_1 <| ?_
  refine ru_icmp_ne (tgt := 28) dX12_isWord_5 (by decide) (fun hc => ?_) (fun hc => ?_)
  · rw [if_neg hc] at h
    exact ru_pick [0, 1] rfl (tbb_X12_isWord_28 hl0 hd   _ _ _ _ h)
  · rw [if_pos hc] at h
    refine ru_aload_n (i := 0) dX12_isWord_8 rfl rfl <| ?_
    refine ru_getI h dX12_isWord_9 lk_X12_104 ?_
    intro v2 h
    refine ru_aload_n (i := 0) dX12_isWord_12 rfl rfl <| ?_
    refine ru_getI h dX12_isWord_13 lk_X12_111 ?_
    intro v3 h
    refine ru_isub dX12_isWord_16 <| ru_aload_n (i := 1) dX12_isWord_17 rfl rfl <| ?_
    obtain ⟨_, hrc, h⟩ := Option.bind_eq_some_iff.mp h
    obtain ⟨q4, hq4, h⟩ := Option.bind_eq_some_iff.mp h
    refine ru_callV (tm_J0_length_8abf5 hl0 (by omega) hq4) dX12_isWord_18 rfl pm_X12_135 mf_J0_length_8abf5 (ab_rcv_s hrc) rfl rfl (Nat.le_of_ble_eq_true rfl) ?_
    refine ru_icmp_ne (tgt := 28) dX12_isWord_21 (by decide) (fun hc => ?_) (fun hc => ?_)
    · rw [if_neg hc] at h
      exact ru_pick [0, 1] rfl (tbb_X12_isWord_28 hl0 hd   _ _ _ _ h)
    · rw [if_pos hc] at h
      refine ru_iconst dX12_isWord_24 kc_i_1 <| ru_goto (tgt := 29) dX12_isWord_25 (by decide) <| ?_
      exact ru_pick [0, 1] rfl (tbb_X12_isWord_29 hl0 hd   _ _ _ _ _ h)
theorem tm_X12_isWord {l : Launch} {g : ab_G} (hl0 : l.stackTraces = false) {d : Nat} (hd : 5 ≤ d) {l0 : Nat} {l1 : Nat} {m : ab_Mm} {z : (Int32 × ab_Mm)} (h : dd_X12_isWord l0 l1 m = some z) : ab_Met l g yX12_isWord cX12_isWord 4 (some .boolean) [] d [.ref l0, .ref l1] m (.inl (some (.int z.1))) z.2 := by
  obtain ⟨d2, rfl⟩ : ∃ d2, d = d2 + 1 := ⟨d - 1, by omega⟩
  exact ab_of hl0 (by decide +kernel) (Nat.le_of_ble_eq_true rfl) (fun q => by cases q) rfl (te_X12_isWord hl0 hd _ _ _ _ h)
theorem tbb_X12_isSignHere_21 {l : Launch} {g : ab_G} (hl0 : l.stackTraces = false) {d2 : Nat} (hd : 1 ≤ d2 + 1)   (s0 : Int32) (m0 : ab_Mm) (z : (Int32 × ab_Mm)) (h : bb_X12_isSignHere_21  s0 m0 = some z) : ab_W l g cX12_isSignHere RX12 2 (some .boolean) [] false (d2 + 1) (.inl (some (.int z.1))) z.2 21 [] [.int s0] m0 := by
  unfold bb_X12_isSignHere_21 at h
  rcases ab_iff h with ⟨hc, h⟩ | ⟨hc, h⟩
  · cases h
  cases h
  exact ru_ret (v := some (.int _)) ⟨_, rfl, congrArg Value.int (Classical.not_not.mp hc), dX12_isSignHere_21⟩
theorem tbb_X12_isSignHere_20 {l : Launch} {g : ab_G} (hl0 : l.stackTraces = false) {d2 : Nat} (hd : 1 ≤ d2 + 1)    (m0 : ab_Mm) (z : (Int32 × ab_Mm)) (h : bb_X12_isSignHere_20   m0 = some z) : ab_W l g cX12_isSignHere RX12 2 (some .boolean) [] false (d2 + 1) (.inl (some (.int z.1))) z.2 20 [] [] m0 := by
  unfold bb_X12_isSignHere_20 at h
  refine ru_iconst dX12_isSignHere_20 kc_i_0 <| ?_
  exact ru_pick [] rfl (tbb_X12_isSignHere_21 hl0 hd   _ _ _ h)
theorem te_X12_isSignHere {l : Launch} {g : ab_G} (hl0 : l.stackTraces = false) {d2 : Nat} (hd : 1 ≤ d2 + 1)   (l0 : Nat) (l1 : Int32) (m0 : ab_Mm) (z : (Int32 × ab_Mm)) (h : dd_X12_isSignHere  l0 l1 m0 = some z) : ab_W l g cX12_isSignHere RX12 2 (some .boolean) [] false (d2 + 1) (.inl (some (.int z.1))) z.2 0 [(0, .ref l0), (1, .int l1)] [] m0 := by
  unfold dd_X12_isSignHere at h
  refine ru_aload_n (i := 0) dX12_isSignHere_0 rfl rfl <| ?_
  refine ru_getI h dX12_isSignHere_1 lk_X12_117 ?_
  intro v1 h
  refine ru_iconst dX12_isSignHere_4 kc_i_3 <| ?_
  refine ru_icmp_ne (tgt := 20) dX12_isSignHere_5 (by decide) (fun hc => ?_) (fun hc => ?_)
  · rw [if_neg hc] at h
    exact ru_pick [] rfl (tbb_X12_isSignHere_20 hl0 hd    _ _ h)
  · rw [if_pos hc] at h
    refine ru_aload_n (i := 0) dX12_isSignHere_8 rfl rfl <| ?_
    refine ru_getI h dX12_isSignHere_9 lk_X12_114 ?_
    intro v2 h
    refine ru_iload_n (i := 1) dX12_isSignHere_12 rfl rfl <| ?_
    refine ru_icmp_ne (tgt := 20) dX12_isSignHere_13 (by decide) (fun hc => ?_) (fun hc => ?_)
    · rw [if_neg hc] at h
      exact ru_pick [] rfl (tbb_X12_isSignHere_20 hl0 hd    _ _ h)
    · rw [if_pos hc] at h
      refine ru_iconst dX12_isSignHere_16 kc_i_1 <| ru_goto (tgt := 21) dX12_isSignHere_17 (by decide) <| ?_
      exact ru_pick [] rfl (tbb_X12_isSignHere_21 hl0 hd   _ _ _ h)
theorem tm_X12_isSignHere {l : Launch} {g : ab_G} (hl0 : l.stackTraces = false) {d : Nat} (hd : 1 ≤ d) {l0 : Nat} {l1 : Int32} {m : ab_Mm} {z : (Int32 × ab_Mm)} (h : dd_X12_isSignHere l0 l1 m = some z) : ab_Met l g yX12_isSignHere cX12_isSignHere 2 (some .boolean) [] d [.ref l0, .int l1] m (.inl (some (.int z.1))) z.2 := by
  obtain ⟨d2, rfl⟩ : ∃ d2, d = d2 + 1 := ⟨d - 1, by omega⟩
  exact ab_of hl0 (by decide +kernel) (Nat.le_of_ble_eq_true rfl) (fun q => by cases q) rfl (te_X12_isSignHere hl0 hd _ _ _ _ h)
theorem tbb_X12_fails_20 {l : Launch} {g : ab_G} (hl0 : l.stackTraces = false) {d2 : Nat} (hd : 1 ≤ d2 + 1)    (m0 : ab_Mm) (z : (Int32 × ab_Mm)) (h : bb_X12_fails_20   m0 = some z) : ab_W l g cX12_fails RX12 2 (some .boolean) [] false (d2 + 1) (.inl (some (.int z.1))) z.2 20 [] [] m0 := by
  unfold bb_X12_fails_20 at h
  refine ru_iconst dX12_fails_20 kc_i_0 <| ?_
  cases h
  exact ru_ret (v := some (.int _)) ⟨_, rfl, ab_nz0, dX12_fails_21⟩
theorem te_X12_fails {l : Launch} {g : ab_G} (hl0 : l.stackTraces = false) {d2 : Nat} (hd : 1 ≤ d2 + 1)   (l0 : Nat) (l1 : Int32) (m0 : ab_Mm) (z : (Int32 × ab_Mm)) (h : dd_X12_fails  l0 l1 m0 = some z) : ab_W l g cX12_fails RX12 2 (some .boolean) [] false (d2 + 1) (.inl (some (.int z.1))) z.2 0 [(0, .ref l0), (1, .int l1)] [] m0 := by
  unfold dd_X12_fails at h
  refine ru_aload_n (i := 0) dX12_fails_0 rfl rfl <| ?_
  refine ru_getI h dX12_fails_1 lk_X12_144 ?_
  intro v1 h
  refine ru_if_ne (tgt := 20) dX12_fails_4 (by decide) (fun hc => ?_) (fun hc => ?_)
  · rw [if_neg hc] at h
    exact ru_pick [] rfl (tbb_X12_fails_20 hl0 hd    _ _ h)
  · rw [if_pos hc] at h
    refine ru_aload_n (i := 0) dX12_fails_7 rfl rfl <| ru_iload_n (i := 1) dX12_fails_8 rfl rfl <| ?_
    refine ru_putI h dX12_fails_9 lk_X12_144 ?_
    intro m2 h
    refine ru_aload_n (i := 0) dX12_fails_12 rfl rfl <| ru_aload_n (i := 0) dX12_fails_13 rfl rfl <| ?_
    refine ru_getI h dX12_fails_14 lk_X12_111 ?_
    intro v3 h
    refine ru_putI h dX12_fails_17 lk_X12_39 ?_
    intro m4 h
    exact ru_pick [] rfl (tbb_X12_fails_20 hl0 hd    _ _ h)
theorem tm_X12_fails {l : Launch} {g : ab_G} (hl0 : l.stackTraces = false) {d : Nat} (hd : 1 ≤ d) {l0 : Nat} {l1 : Int32} {m : ab_Mm} {z : (Int32 × ab_Mm)} (h : dd_X12_fails l0 l1 m = some z) : ab_Met l g yX12_fails cX12_fails 2 (some .boolean) [] d [.ref l0, .int l1] m (.inl (some (.int z.1))) z.2 := by
  obtain ⟨d2, rfl⟩ : ∃ d2, d = d2 + 1 := ⟨d - 1, by omega⟩
  exact ab_of hl0 (by decide +kernel) (Nat.le_of_ble_eq_true rfl) (fun q => by cases q) rfl (te_X12_fails hl0 hd _ _ _ _ h)
theorem te_X12_takes {l : Launch} {g : ab_G} (hl0 : l.stackTraces = false) {d2 : Nat} (hd : 3 ≤ d2 + 1)   (l0 : Nat) (l1 : Int32) (l2 : Int32) (m0 : ab_Mm) (z : (Int32 × ab_Mm)) (h : dd_X12_takes  l0 l1 l2 m0 = some z) : ab_W l g cX12_takes RX12 3 (some .boolean) [] false (d2 + 1) (.inl (some (.int z.1))) z.2 0 [(0, .ref l0), (1, .int l1), (2, .int l2)] [] m0 := by
  unfold dd_X12_takes at h
  refine ru_aload_n (i := 0) dX12_takes_0 rfl rfl <| ?_
  refine ru_getI h dX12_takes_1 lk_X12_117 ?_
  intro v1 h
  refine ru_iconst dX12_takes_4 kc_i_2 <| ?_
  refine ru_icmp_eq (tgt := 14) dX12_takes_5 (by decide) (fun hc => ?_) (fun hc => ?_)
  · rw [if_pos hc] at h
    refine ru_aload_n (i := 0) dX12_takes_14 rfl rfl <| ?_
    refine ru_getI h dX12_takes_15 lk_X12_114 ?_
    intro v2 h
    refine ru_i2l dX12_takes_18 <| ru_iload_n (i := 1) dX12_takes_19 rfl rfl <| ru_i2l dX12_takes_20 <| ru_iload_n (i := 2) dX12_takes_21 rfl rfl <| ru_i2l dX12_takes_22 <| ?_
    obtain ⟨q3, hq3, h⟩ := Option.bind_eq_some_iff.mp h
    refine ru_callS (tm_X12_within hl0 (by omega) hq3) dX12_takes_23 rfl pm_X12_124 mf_X12_within rfl rfl (Nat.le_of_ble_eq_true rfl) ?_
    refine ru_if_ne (tgt := 35) dX12_takes_26 (by decide) (fun hc => ?_) (fun hc => ?_)
    · rw [if_neg hc] at h
      refine ru_aload_n (i := 0) dX12_takes_35 rfl rfl <| ru_aload_n (i := 0) dX12_takes_36 rfl rfl <| ?_
      refine ru_getI h dX12_takes_37 lk_X12_114 ?_
      intro v4 h
      refine ru_putI h dX12_takes_40 lk_X12_150 ?_
      intro m5 h
      refine ru_aload_n (i := 0) dX12_takes_43 rfl rfl <| ?_
      obtain ⟨_, hrc, h⟩ := Option.bind_eq_some_iff.mp h
      obtain ⟨q6, hq6, h⟩ := Option.bind_eq_some_iff.mp h
      refine ru_callV (tm_X12_advance hl0 (by omega) hq6) dX12_takes_44 rfl pm_X12_153 mf_X12_advance (ab_rcv_of hrc rfl) rfl rfl (Nat.le_of_ble_eq_true rfl) ?_
      refine ru_iconst dX12_takes_47 kc_i_1 <| ?_
      cases h
      exact ru_ret (v := some (.int _)) ⟨_, rfl, ab_nz1, dX12_takes_48⟩
    · rw [if_pos hc] at h
      refine ru_aload_n (i := 0) dX12_takes_29 rfl rfl <| ru_iconst dX12_takes_30 kc_i_3 <| ?_
      obtain ⟨_, hrc, h⟩ := Option.bind_eq_some_iff.mp h
      obtain ⟨q7, hq7, h⟩ := Option.bind_eq_some_iff.mp h
      refine ru_callV (tm_X12_fails hl0 (by omega) hq7) dX12_takes_31 rfl pm_X12_147 mf_X12_fails (ab_rcv_of hrc rfl) rfl rfl (Nat.le_of_ble_eq_true rfl) ?_
      rcases ab_iff h with ⟨hc, h⟩ | ⟨hc, h⟩
      · cases h
      cases h
      exact ru_ret (v := some (.int _)) ⟨_, rfl, congrArg Value.int (Classical.not_not.mp hc), dX12_takes_34⟩
  · rw [if_neg hc] at h
    refine ru_aload_n (i := 0) dX12_takes_8 rfl rfl <| ru_iconst dX12_takes_9 kc_i_1 <| ?_
    obtain ⟨_, hrc, h⟩ := Option.bind_eq_some_iff.mp h
    obtain ⟨q8, hq8, h⟩ := Option.bind_eq_some_iff.mp h
    refine ru_callV (tm_X12_fails hl0 (by omega) hq8) dX12_takes_10 rfl pm_X12_147 mf_X12_fails (ab_rcv_of hrc rfl) rfl rfl (Nat.le_of_ble_eq_true rfl) ?_
    rcases ab_iff h with ⟨hc, h⟩ | ⟨hc, h⟩
    · cases h
    cases h
    exact ru_ret (v := some (.int _)) ⟨_, rfl, congrArg Value.int (Classical.not_not.mp hc), dX12_takes_13⟩
theorem tm_X12_takes {l : Launch} {g : ab_G} (hl0 : l.stackTraces = false) {d : Nat} (hd : 3 ≤ d) {l0 : Nat} {l1 : Int32} {l2 : Int32} {m : ab_Mm} {z : (Int32 × ab_Mm)} (h : dd_X12_takes l0 l1 l2 m = some z) : ab_Met l g yX12_takes cX12_takes 3 (some .boolean) [] d [.ref l0, .int l1, .int l2] m (.inl (some (.int z.1))) z.2 := by
  obtain ⟨d2, rfl⟩ : ∃ d2, d = d2 + 1 := ⟨d - 1, by omega⟩
  exact ab_of hl0 (by decide +kernel) (Nat.le_of_ble_eq_true rfl) (fun q => by cases q) rfl (te_X12_takes hl0 hd _ _ _ _ _ h)
theorem te_X12_starts {l : Launch} {g : ab_G} (hl0 : l.stackTraces = false) {d2 : Nat} (hd : 3 ≤ d2 + 1)   (l0 : Nat) (l1 : Int32) (l2 : Int32) (m0 : ab_Mm) (z : (Int32 × ab_Mm)) (h : dd_X12_starts  l0 l1 l2 m0 = some z) : ab_W l g cX12_starts RX12 3 (some .boolean) [] false (d2 + 1) (.inl (some (.int z.1))) z.2 0 [(0, .ref l0), (1, .int l1), (2, .int l2)] [] m0 := by
  unfold dd_X12_starts at h
  refine ru_iload_n (i := 2) dX12_starts_0 rfl rfl <| ?_
  refine ru_if_ne (tgt := 10) dX12_starts_1 (by decide) (fun hc => ?_) (fun hc => ?_)
  · rw [if_neg hc] at h
    refine ru_aload_n (i := 0) dX12_starts_10 rfl rfl <| ?_
    obtain ⟨_, hrc, h⟩ := Option.bind_eq_some_iff.mp h
    obtain ⟨q1, hq1, h⟩ := Option.bind_eq_some_iff.mp h
    refine ru_callV (tm_X12_advance hl0 (by omega) hq1) dX12_starts_11 rfl pm_X12_153 mf_X12_advance (ab_rcv_of hrc rfl) rfl rfl (Nat.le_of_ble_eq_true rfl) ?_
    refine ru_iconst dX12_starts_14 kc_i_1 <| ?_
    cases h
    exact ru_ret (v := some (.int _)) ⟨_, rfl, ab_nz1, dX12_starts_15⟩
  · rw [if_pos hc] at h
    refine ru_aload_n (i := 0) dX12_starts_4 rfl rfl <| ru_iload_n (i := 1) dX12_starts_5 rfl rfl <| ?_
    obtain ⟨_, hrc, h⟩ := Option.bind_eq_some_iff.mp h
    obtain ⟨q2, hq2, h⟩ := Option.bind_eq_some_iff.mp h
    refine ru_callV (tm_X12_fails hl0 (by omega) hq2) dX12_starts_6 rfl pm_X12_147 mf_X12_fails (ab_rcv_of hrc rfl) rfl rfl (Nat.le_of_ble_eq_true rfl) ?_
    rcases ab_iff h with ⟨hc, h⟩ | ⟨hc, h⟩
    · cases h
    cases h
    exact ru_ret (v := some (.int _)) ⟨_, rfl, congrArg Value.int (Classical.not_not.mp hc), dX12_starts_9⟩
theorem tm_X12_starts {l : Launch} {g : ab_G} (hl0 : l.stackTraces = false) {d : Nat} (hd : 3 ≤ d) {l0 : Nat} {l1 : Int32} {l2 : Int32} {m : ab_Mm} {z : (Int32 × ab_Mm)} (h : dd_X12_starts l0 l1 l2 m = some z) : ab_Met l g yX12_starts cX12_starts 3 (some .boolean) [] d [.ref l0, .int l1, .int l2] m (.inl (some (.int z.1))) z.2 := by
  obtain ⟨d2, rfl⟩ : ∃ d2, d = d2 + 1 := ⟨d - 1, by omega⟩
  exact ab_of hl0 (by decide +kernel) (Nat.le_of_ble_eq_true rfl) (fun q => by cases q) rfl (te_X12_starts hl0 hd _ _ _ _ _ h)
theorem tbb_X12_once_18 {l : Launch} {g : ab_G} (hl0 : l.stackTraces = false) {d2 : Nat} (hd : 4 ≤ d2 + 1)   (l0 : Nat) (l1 : Int32) (s0 : Nat) (s1 : Int32) (s2 : Int32) (m0 : ab_Mm) (z : (Int32 × ab_Mm)) (h : bb_X12_once_18  l0 l1 s0 s1 s2 m0 = some z) : ab_W l g cX12_once RX12 2 (some .boolean) [] false (d2 + 1) (.inl (some (.int z.1))) z.2 18 [(0, .ref l0), (1, .int l1)] [.int s2, .int s1, .ref s0] m0 := by
  unfold bb_X12_once_18 at h
  obtain ⟨_, hrc, h⟩ := Option.bind_eq_some_iff.mp h
  obtain ⟨q1, hq1, h⟩ := Option.bind_eq_some_iff.mp h
  refine ru_callV (tm_X12_starts hl0 (by omega) hq1) dX12_once_18 rfl pm_X12_163 mf_X12_starts (ab_rcv_of hrc rfl) rfl rfl (Nat.le_of_ble_eq_true rfl) ?_
  refine ru_if_ne (tgt := 26) dX12_once_21 (by decide) (fun hc => ?_) (fun hc => ?_)
  · rw [if_neg hc] at h
    refine ru_aload_n (i := 0) dX12_once_26 rfl rfl <| ru_dup dX12_once_27 rfl <| ?_
    refine ru_getI h dX12_once_28 lk_X12_156 ?_
    intro v2 h
    refine ru_iconst dX12_once_31 kc_i_1 <| ru_iload_n (i := 1) dX12_once_32 rfl rfl <| ru_ishl dX12_once_33 <| ru_ior dX12_once_34 <| ?_
    refine ru_putI h dX12_once_35 lk_X12_156 ?_
    intro m3 h
    refine ru_iconst dX12_once_38 kc_i_1 <| ?_
    cases h
    exact ru_ret (v := some (.int _)) ⟨_, rfl, ab_nz1, dX12_once_39⟩
  · rw [if_pos hc] at h
    refine ru_iconst dX12_once_24 kc_i_0 <| ?_
    cases h
    exact ru_ret (v := some (.int _)) ⟨_, rfl, ab_nz0, dX12_once_25⟩
theorem te_X12_once {l : Launch} {g : ab_G} (hl0 : l.stackTraces = false) {d2 : Nat} (hd : 4 ≤ d2 + 1)   (l0 : Nat) (l1 : Int32) (m0 : ab_Mm) (z : (Int32 × ab_Mm)) (h : dd_X12_once  l0 l1 m0 = some z) : ab_W l g cX12_once RX12 2 (some .boolean) [] false (d2 + 1) (.inl (some (.int z.1))) z.2 0 [(0, .ref l0), (1, .int l1)] [] m0 := by
  unfold dd_X12_once at h
  refine ru_aload_n (i := 0) dX12_once_0 rfl rfl <| ru_iconst dX12_once_1 kc_i_2 <| ru_aload_n (i := 0) dX12_once_2 rfl rfl <| ?_
  refine ru_getI h dX12_once_3 lk_X12_156 ?_
  intro v1 h
  refine ru_iload_n (i := 1) dX12_once_6 rfl rfl <| ?_
  obtain ⟨q2, hq2, h⟩ := Option.bind_eq_some_iff.mp h
  refine ru_callS (tm_X12_has hl0 (by omega) hq2) dX12_once_7 rfl pm_X12_159 mf_X12_has rfl rfl (Nat.le_of_ble_eq_true rfl) ?_
  refine ru_if_ne (tgt := 17) dX12_once_10 (by decide) (fun hc => ?_) (fun hc => ?_)
  · rw [if_neg hc] at h
    refine ru_iconst dX12_once_17 kc_i_0 <| ?_
    exact ru_pick [0, 1] rfl (tbb_X12_once_18 hl0 hd   _ _ _ _ _ _ _ h)
  · rw [if_pos hc] at h
    refine ru_iconst dX12_once_13 kc_i_1 <| ru_goto (tgt := 18) dX12_once_14 (by decide) <| ?_
    exact ru_pick [0, 1] rfl (tbb_X12_once_18 hl0 hd   _ _ _ _ _ _ _ h)
theorem tm_X12_once {l : Launch} {g : ab_G} (hl0 : l.stackTraces = false) {d : Nat} (hd : 4 ≤ d) {l0 : Nat} {l1 : Int32} {m : ab_Mm} {z : (Int32 × ab_Mm)} (h : dd_X12_once l0 l1 m = some z) : ab_Met l g yX12_once cX12_once 2 (some .boolean) [] d [.ref l0, .int l1] m (.inl (some (.int z.1))) z.2 := by
  obtain ⟨d2, rfl⟩ : ∃ d2, d = d2 + 1 := ⟨d - 1, by omega⟩
  exact ab_of hl0 (by decide +kernel) (Nat.le_of_ble_eq_true rfl) (fun q => by cases q) rfl (te_X12_once hl0 hd _ _ _ _ h)
theorem te_X12_sets {l : Launch} {g : ab_G} (hl0 : l.stackTraces = false) {d2 : Nat} (hd : 4 ≤ d2 + 1)   (l0 : Nat) (l1 : Int32) (l2 : Int32) (l3 : Int32) (m0 : ab_Mm) (z : (Int32 × ab_Mm)) (h : dd_X12_sets  l0 l1 l2 l3 m0 = some z) : ab_W l g cX12_sets RX12 4 (some .boolean) [] false (d2 + 1) (.inl (some (.int z.1))) z.2 0 [(0, .ref l0), (1, .int l1), (2, .int l2), (3, .int l3)] [] m0 := by
  unfold dd_X12_sets at h
  refine ru_aload_n (i := 0) dX12_sets_0 rfl rfl <| ru_iload_n (i := 2) dX12_sets_1 rfl rfl <| ru_iload_n (i := 3) dX12_sets_2 rfl rfl <| ?_
  obtain ⟨_, hrc, h⟩ := Option.bind_eq_some_iff.mp h
  obtain ⟨q1, hq1, h⟩ := Option.bind_eq_some_iff.mp h
  refine ru_callV (tm_X12_takes hl0 (by omega) hq1) dX12_sets_3 rfl pm_X12_167 mf_X12_takes (ab_rcv_of hrc rfl) rfl rfl (Nat.le_of_ble_eq_true rfl) ?_
  refine ru_if_ne (tgt := 11) dX12_sets_6 (by decide) (fun hc => ?_) (fun hc => ?_)
  · rw [if_neg hc] at h
    refine ru_aload_n (i := 0) dX12_sets_11 rfl rfl <| ?_
    refine ru_getR h dX12_sets_12 lk_X12_13 ?_
    intro v2 h
    refine ru_bipush dX12_sets_15 kc_b_7 <| ru_iload_n (i := 1) dX12_sets_17 rfl rfl <| ru_iadd dX12_sets_18 <| ru_aload_n (i := 0) dX12_sets_19 rfl rfl <| ?_
    refine ru_getI h dX12_sets_20 lk_X12_150 ?_
    intro v3 h
    refine ru_iastore h dX12_sets_23 ?_
    intro m4 h
    refine ru_iconst dX12_sets_24 kc_i_1 <| ?_
    cases h
    exact ru_ret (v := some (.int _)) ⟨_, rfl, ab_nz1, dX12_sets_25⟩
  · rw [if_pos hc] at h
    refine ru_iconst dX12_sets_9 kc_i_0 <| ?_
    cases h
    exact ru_ret (v := some (.int _)) ⟨_, rfl, ab_nz0, dX12_sets_10⟩
theorem tm_X12_sets {l : Launch} {g : ab_G} (hl0 : l.stackTraces = false) {d : Nat} (hd : 4 ≤ d) {l0 : Nat} {l1 : Int32} {l2 : Int32} {l3 : Int32} {m : ab_Mm} {z : (Int32 × ab_Mm)} (h : dd_X12_sets l0 l1 l2 l3 m = some z) : ab_Met l g yX12_sets cX12_sets 4 (some .boolean) [] d [.ref l0, .int l1, .int l2, .int l3] m (.inl (some (.int z.1))) z.2 := by
  obtain ⟨d2, rfl⟩ : ∃ d2, d = d2 + 1 := ⟨d - 1, by omega⟩
  exact ab_of hl0 (by decide +kernel) (Nat.le_of_ble_eq_true rfl) (fun q => by cases q) rfl (te_X12_sets hl0 hd _ _ _ _ _ _ h)
theorem te_X12_closes {l : Launch} {g : ab_G} (hl0 : l.stackTraces = false) {d2 : Nat} (hd : 3 ≤ d2 + 1)   (l0 : Nat) (l1 : Int32) (m0 : ab_Mm) (z : (Int32 × ab_Mm)) (h : dd_X12_closes  l0 l1 m0 = some z) : ab_W l g cX12_closes RX12 2 (some .boolean) [] false (d2 + 1) (.inl (some (.int z.1))) z.2 0 [(0, .ref l0), (1, .int l1)] [] m0 := by
  unfold dd_X12_closes at h
  refine ru_aload_n (i := 0) dX12_closes_0 rfl rfl <| ru_iload_n (i := 1) dX12_closes_1 rfl rfl <| ?_
  obtain ⟨_, hrc, h⟩ := Option.bind_eq_some_iff.mp h
  obtain ⟨q1, hq1, h⟩ := Option.bind_eq_some_iff.mp h
  refine ru_callV (tm_X12_isSignHere hl0 (by omega) hq1) dX12_closes_2 rfl pm_X12_170 mf_X12_isSignHere (ab_rcv_of hrc rfl) rfl rfl (Nat.le_of_ble_eq_true rfl) ?_
  refine ru_if_ne (tgt := 14) dX12_closes_5 (by decide) (fun hc => ?_) (fun hc => ?_)
  · rw [if_neg hc] at h
    refine ru_aload_n (i := 0) dX12_closes_14 rfl rfl <| ?_
    obtain ⟨_, hrc, h⟩ := Option.bind_eq_some_iff.mp h
    obtain ⟨q2, hq2, h⟩ := Option.bind_eq_some_iff.mp h
    refine ru_callV (tm_X12_advance hl0 (by omega) hq2) dX12_closes_15 rfl pm_X12_153 mf_X12_advance (ab_rcv_of hrc rfl) rfl rfl (Nat.le_of_ble_eq_true rfl) ?_
    refine ru_iconst dX12_closes_18 kc_i_1 <| ?_
    cases h
    exact ru_ret (v := some (.int _)) ⟨_, rfl, ab_nz1, dX12_closes_19⟩
  · rw [if_pos hc] at h
    refine ru_aload_n (i := 0) dX12_closes_8 rfl rfl <| ru_iconst dX12_closes_9 kc_i_1 <| ?_
    obtain ⟨_, hrc, h⟩ := Option.bind_eq_some_iff.mp h
    obtain ⟨q3, hq3, h⟩ := Option.bind_eq_some_iff.mp h
    refine ru_callV (tm_X12_fails hl0 (by omega) hq3) dX12_closes_10 rfl pm_X12_147 mf_X12_fails (ab_rcv_of hrc rfl) rfl rfl (Nat.le_of_ble_eq_true rfl) ?_
    rcases ab_iff h with ⟨hc, h⟩ | ⟨hc, h⟩
    · cases h
    cases h
    exact ru_ret (v := some (.int _)) ⟨_, rfl, congrArg Value.int (Classical.not_not.mp hc), dX12_closes_13⟩
theorem tm_X12_closes {l : Launch} {g : ab_G} (hl0 : l.stackTraces = false) {d : Nat} (hd : 3 ≤ d) {l0 : Nat} {l1 : Int32} {m : ab_Mm} {z : (Int32 × ab_Mm)} (h : dd_X12_closes l0 l1 m = some z) : ab_Met l g yX12_closes cX12_closes 2 (some .boolean) [] d [.ref l0, .int l1] m (.inl (some (.int z.1))) z.2 := by
  obtain ⟨d2, rfl⟩ : ∃ d2, d = d2 + 1 := ⟨d - 1, by omega⟩
  exact ab_of hl0 (by decide +kernel) (Nat.le_of_ble_eq_true rfl) (fun q => by cases q) rfl (te_X12_closes hl0 hd _ _ _ _ h)
theorem te_X12_lays {l : Launch} {g : ab_G} (hl0 : l.stackTraces = false) {d2 : Nat} (hd : 4 ≤ d2 + 1)   (l0 : Nat) (l1 : Nat) (l2 : Int32) (l3 : Int32) (l4 : Int32) (m0 : ab_Mm) (z : (Int32 × ab_Mm)) (h : dd_X12_lays  l0 l1 l2 l3 l4 m0 = some z) : ab_W l g cX12_lays RX12 5 (some .boolean) [] false (d2 + 1) (.inl (some (.int z.1))) z.2 0 [(0, .ref l0), (1, .ref l1), (2, .int l2), (3, .int l3), (4, .int l4)] [] m0 := by
  unfold dd_X12_lays at h
  refine ru_aload_n (i := 0) dX12_lays_0 rfl rfl <| ru_iload_n (i := 3) dX12_lays_1 rfl rfl <| ru_iload dX12_lays_2 rfl <| ?_
  obtain ⟨_, hrc, h⟩ := Option.bind_eq_some_iff.mp h
  obtain ⟨q1, hq1, h⟩ := Option.bind_eq_some_iff.mp h
  refine ru_callV (tm_X12_takes hl0 (by omega) hq1) dX12_lays_4 rfl pm_X12_167 mf_X12_takes (ab_rcv_of hrc rfl) rfl rfl (Nat.le_of_ble_eq_true rfl) ?_
  refine ru_if_ne (tgt := 12) dX12_lays_7 (by decide) (fun hc => ?_) (fun hc => ?_)
  · rw [if_neg hc] at h
    refine ru_aload_n (i := 1) dX12_lays_12 rfl rfl <| ru_aload_n (i := 1) dX12_lays_13 rfl rfl <| ?_
    refine ru_alen 0 h dX12_lays_14 ?_
    intro v2 h
    refine ru_iconst dX12_lays_15 kc_i_2 <| ?_
    rcases ab_iff h with ⟨hc, h⟩ | ⟨hc, h⟩
    · cases h
    refine ru_idiv dX12_lays_16 hc ?_
    refine ru_iload_n (i := 2) dX12_lays_17 rfl rfl <| ru_iadd dX12_lays_18 <| ru_aload_n (i := 0) dX12_lays_19 rfl rfl <| ?_
    refine ru_getI h dX12_lays_20 lk_X12_150 ?_
    intro v3 h
    refine ru_iastore h dX12_lays_23 ?_
    intro m4 h
    refine ru_iconst dX12_lays_24 kc_i_1 <| ?_
    cases h
    exact ru_ret (v := some (.int _)) ⟨_, rfl, ab_nz1, dX12_lays_25⟩
  · rw [if_pos hc] at h
    refine ru_iconst dX12_lays_10 kc_i_0 <| ?_
    cases h
    exact ru_ret (v := some (.int _)) ⟨_, rfl, ab_nz0, dX12_lays_11⟩
theorem tm_X12_lays {l : Launch} {g : ab_G} (hl0 : l.stackTraces = false) {d : Nat} (hd : 4 ≤ d) {l0 : Nat} {l1 : Nat} {l2 : Int32} {l3 : Int32} {l4 : Int32} {m : ab_Mm} {z : (Int32 × ab_Mm)} (h : dd_X12_lays l0 l1 l2 l3 l4 m = some z) : ab_Met l g yX12_lays cX12_lays 5 (some .boolean) [] d [.ref l0, .ref l1, .int l2, .int l3, .int l4] m (.inl (some (.int z.1))) z.2 := by
  obtain ⟨d2, rfl⟩ : ∃ d2, d = d2 + 1 := ⟨d - 1, by omega⟩
  exact ab_of hl0 (by decide +kernel) (Nat.le_of_ble_eq_true rfl) (fun q => by cases q) rfl (te_X12_lays hl0 hd _ _ _ _ _ _ _ h)
theorem tbb_X12_reserveLine_126 {l : Launch} {g : ab_G} (hl0 : l.stackTraces = false) {d2 : Nat} (hd : 5 ≤ d2 + 1)   (s0 : Int32) (m0 : ab_Mm) (z : (Int32 × ab_Mm)) (h : bb_X12_reserveLine_126  s0 m0 = some z) : ab_W l g cX12_reserveLine RX12 2 (some .boolean) [] false (d2 + 1) (.inl (some (.int z.1))) z.2 126 [] [.int s0] m0 := by
  unfold bb_X12_reserveLine_126 at h
  rcases ab_iff h with ⟨hc, h⟩ | ⟨hc, h⟩
  · cases h
  cases h
  exact ru_ret (v := some (.int _)) ⟨_, rfl, congrArg Value.int (Classical.not_not.mp hc), dX12_reserveLine_126⟩
theorem tbb_X12_reserveLine_125 {l : Launch} {g : ab_G} (hl0 : l.stackTraces = false) {d2 : Nat} (hd : 5 ≤ d2 + 1)    (m0 : ab_Mm) (z : (Int32 × ab_Mm)) (h : bb_X12_reserveLine_125   m0 = some z) : ab_W l g cX12_reserveLine RX12 2 (some .boolean) [] false (d2 + 1) (.inl (some (.int z.1))) z.2 125 [] [] m0 := by
  unfold bb_X12_reserveLine_125 at h
  refine ru_iconst dX12_reserveLine_125 kc_i_0 <| ?_
  exact ru_pick [] rfl (tbb_X12_reserveLine_126 hl0 hd   _ _ _ h)
theorem te_X12_reserveLine {l : Launch} {g : ab_G} (hl0 : l.stackTraces = false) {d2 : Nat} (hd : 5 ≤ d2 + 1)   (l0 : Nat) (l1 : Int32) (m0 : ab_Mm) (z : (Int32 × ab_Mm)) (h : dd_X12_reserveLine  l0 l1 m0 = some z) : ab_W l g cX12_reserveLine RX12 2 (some .boolean) [] false (d2 + 1) (.inl (some (.int z.1))) z.2 0 [(0, .ref l0), (1, .int l1)] [] m0 := by
  unfold dd_X12_reserveLine at h
  refine ru_aload_n (i := 0) dX12_reserveLine_0 rfl rfl <| ru_aload_n (i := 0) dX12_reserveLine_1 rfl rfl <| ?_
  refine ru_getR h dX12_reserveLine_2 lk_X12_26 ?_
  intro v1 h
  refine ru_iload_n (i := 1) dX12_reserveLine_5 rfl rfl <| ru_iconst dX12_reserveLine_6 kc_i_0 <| ru_aload_n (i := 0) dX12_reserveLine_7 rfl rfl <| ?_
  refine ru_getR h dX12_reserveLine_8 lk_X12_13 ?_
  intro v2 h
  refine ru_bipush dX12_reserveLine_11 kc_b_9 <| ?_
  refine ru_iaload h dX12_reserveLine_13 ?_
  intro v3 h
  refine ru_iconst dX12_reserveLine_14 kc_i_1 <| ru_isub dX12_reserveLine_15 <| ?_
  obtain ⟨_, hrc, h⟩ := Option.bind_eq_some_iff.mp h
  obtain ⟨q4, hq4, h⟩ := Option.bind_eq_some_iff.mp h
  refine ru_callV (tm_X12_lays hl0 (by omega) hq4) dX12_reserveLine_16 rfl pm_X12_173 mf_X12_lays (ab_rcv_of hrc rfl) rfl rfl (Nat.le_of_ble_eq_true rfl) ?_
  refine ru_if_eq (tgt := 125) dX12_reserveLine_19 (by decide) (fun hc => ?_) (fun hc => ?_)
  · rw [if_pos hc] at h
    exact ru_pick [] rfl (tbb_X12_reserveLine_125 hl0 hd    _ _ h)
  · rw [if_neg hc] at h
    refine ru_aload_n (i := 0) dX12_reserveLine_22 rfl rfl <| ru_aload_n (i := 0) dX12_reserveLine_23 rfl rfl <| ?_
    refine ru_getR h dX12_reserveLine_24 lk_X12_26 ?_
    intro v5 h
    refine ru_iload_n (i := 1) dX12_reserveLine_27 rfl rfl <| ru_iconst dX12_reserveLine_28 kc_i_1 <| ru_iadd dX12_reserveLine_29 <| ru_iconst dX12_reserveLine_30 kc_i_0 <| ru_aload_n (i := 0) dX12_reserveLine_31 rfl rfl <| ?_
    refine ru_getR h dX12_reserveLine_32 lk_X12_13 ?_
    intro v6 h
    refine ru_bipush dX12_reserveLine_35 kc_b_8 <| ?_
    refine ru_iaload h dX12_reserveLine_37 ?_
    intro v7 h
    refine ru_iconst dX12_reserveLine_38 kc_i_1 <| ru_isub dX12_reserveLine_39 <| ?_
    obtain ⟨_, hrc, h⟩ := Option.bind_eq_some_iff.mp h
    obtain ⟨q8, hq8, h⟩ := Option.bind_eq_some_iff.mp h
    refine ru_callV (tm_X12_lays hl0 (by omega) hq8) dX12_reserveLine_40 rfl pm_X12_173 mf_X12_lays (ab_rcv_of hrc rfl) rfl rfl (Nat.le_of_ble_eq_true rfl) ?_
    refine ru_if_eq (tgt := 125) dX12_reserveLine_43 (by decide) (fun hc => ?_) (fun hc => ?_)
    · rw [if_pos hc] at h
      exact ru_pick [] rfl (tbb_X12_reserveLine_125 hl0 hd    _ _ h)
    · rw [if_neg hc] at h
      refine ru_aload_n (i := 0) dX12_reserveLine_46 rfl rfl <| ru_aload_n (i := 0) dX12_reserveLine_47 rfl rfl <| ?_
      refine ru_getR h dX12_reserveLine_48 lk_X12_26 ?_
      intro v9 h
      refine ru_iload_n (i := 1) dX12_reserveLine_51 rfl rfl <| ru_iconst dX12_reserveLine_52 kc_i_2 <| ru_iadd dX12_reserveLine_53 <| ru_iconst dX12_reserveLine_54 kc_i_1 <| ru_bipush dX12_reserveLine_55 kc_b_9 <| ?_
      obtain ⟨_, hrc, h⟩ := Option.bind_eq_some_iff.mp h
      obtain ⟨q10, hq10, h⟩ := Option.bind_eq_some_iff.mp h
      refine ru_callV (tm_X12_lays hl0 (by omega) hq10) dX12_reserveLine_57 rfl pm_X12_173 mf_X12_lays (ab_rcv_of hrc rfl) rfl rfl (Nat.le_of_ble_eq_true rfl) ?_
      refine ru_if_eq (tgt := 125) dX12_reserveLine_60 (by decide) (fun hc => ?_) (fun hc => ?_)
      · rw [if_pos hc] at h
        exact ru_pick [] rfl (tbb_X12_reserveLine_125 hl0 hd    _ _ h)
      · rw [if_neg hc] at h
        refine ru_aload_n (i := 0) dX12_reserveLine_63 rfl rfl <| ru_aload_n (i := 0) dX12_reserveLine_64 rfl rfl <| ?_
        refine ru_getR h dX12_reserveLine_65 lk_X12_26 ?_
        intro v11 h
        refine ru_iload_n (i := 1) dX12_reserveLine_68 rfl rfl <| ru_iconst dX12_reserveLine_69 kc_i_3 <| ru_iadd dX12_reserveLine_70 <| ru_iconst dX12_reserveLine_71 kc_i_0 <| ru_sipush dX12_reserveLine_72 kc_s_9998 <| ?_
        obtain ⟨_, hrc, h⟩ := Option.bind_eq_some_iff.mp h
        obtain ⟨q12, hq12, h⟩ := Option.bind_eq_some_iff.mp h
        refine ru_callV (tm_X12_lays hl0 (by omega) hq12) dX12_reserveLine_75 rfl pm_X12_173 mf_X12_lays (ab_rcv_of hrc rfl) rfl rfl (Nat.le_of_ble_eq_true rfl) ?_
        refine ru_if_eq (tgt := 125) dX12_reserveLine_78 (by decide) (fun hc => ?_) (fun hc => ?_)
        · rw [if_pos hc] at h
          exact ru_pick [] rfl (tbb_X12_reserveLine_125 hl0 hd    _ _ h)
        · rw [if_neg hc] at h
          refine ru_aload_n (i := 0) dX12_reserveLine_81 rfl rfl <| ru_aload_n (i := 0) dX12_reserveLine_82 rfl rfl <| ?_
          refine ru_getR h dX12_reserveLine_83 lk_X12_26 ?_
          intro v13 h
          refine ru_iload_n (i := 1) dX12_reserveLine_86 rfl rfl <| ru_iconst dX12_reserveLine_87 kc_i_4 <| ru_iadd dX12_reserveLine_88 <| ru_aload_n (i := 0) dX12_reserveLine_89 rfl rfl <| ?_
          refine ru_getI h dX12_reserveLine_90 lk_X12_150 ?_
          intro v14 h
          refine ru_iconst dX12_reserveLine_93 kc_i_1 <| ru_iadd dX12_reserveLine_94 <| ru_sipush dX12_reserveLine_95 kc_s_9999 <| ?_
          obtain ⟨_, hrc, h⟩ := Option.bind_eq_some_iff.mp h
          obtain ⟨q15, hq15, h⟩ := Option.bind_eq_some_iff.mp h
          refine ru_callV (tm_X12_lays hl0 (by omega) hq15) dX12_reserveLine_98 rfl pm_X12_173 mf_X12_lays (ab_rcv_of hrc rfl) rfl rfl (Nat.le_of_ble_eq_true rfl) ?_
          refine ru_if_eq (tgt := 125) dX12_reserveLine_101 (by decide) (fun hc => ?_) (fun hc => ?_)
          · rw [if_pos hc] at h
            exact ru_pick [] rfl (tbb_X12_reserveLine_125 hl0 hd    _ _ h)
          · rw [if_neg hc] at h
            refine ru_aload_n (i := 0) dX12_reserveLine_104 rfl rfl <| ru_aload_n (i := 0) dX12_reserveLine_105 rfl rfl <| ?_
            refine ru_getR h dX12_reserveLine_106 lk_X12_26 ?_
            intro v16 h
            refine ru_iload_n (i := 1) dX12_reserveLine_109 rfl rfl <| ru_iconst dX12_reserveLine_110 kc_i_5 <| ru_iadd dX12_reserveLine_111 <| ru_iconst dX12_reserveLine_112 kc_i_0 <| ru_bipush dX12_reserveLine_113 kc_b_100 <| ?_
            obtain ⟨_, hrc, h⟩ := Option.bind_eq_some_iff.mp h
            obtain ⟨q17, hq17, h⟩ := Option.bind_eq_some_iff.mp h
            refine ru_callV (tm_X12_lays hl0 (by omega) hq17) dX12_reserveLine_115 rfl pm_X12_173 mf_X12_lays (ab_rcv_of hrc rfl) rfl rfl (Nat.le_of_ble_eq_true rfl) ?_
            refine ru_if_eq (tgt := 125) dX12_reserveLine_118 (by decide) (fun hc => ?_) (fun hc => ?_)
            · rw [if_pos hc] at h
              exact ru_pick [] rfl (tbb_X12_reserveLine_125 hl0 hd    _ _ h)
            · rw [if_neg hc] at h
              refine ru_iconst dX12_reserveLine_121 kc_i_1 <| ru_goto (tgt := 126) dX12_reserveLine_122 (by decide) <| ?_
              exact ru_pick [] rfl (tbb_X12_reserveLine_126 hl0 hd   _ _ _ h)
