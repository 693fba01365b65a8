/-! ===== the methods keep to these functions (by program) ===== -/
theorem tbb_L_law_346 {l : Launch} {g : ab_G} {hh : List (Nat × Nat × Nat × Nat)} (hl0 : l.stackTraces = false) {d2 : Nat} (hd : 42 ≤ d2 + 1) (r23 : Nat → Nat → Nat → Int32 → ab_Mm → Option (Int32 × ab_Mm)) (hr23 : ∀ (l1 : Nat) (l2 : Nat) (l3 : Nat) (l4 : Int32) (m : ab_Mm) (z : (Int32 × ab_Mm)), r23 l1 l2 l3 l4 m = some z → ab_W l g cL_law RL 9 (some .boolean) hh false (d2 + 1) (.inl (some (.int z.1))) z.2 23 [(0, .ref 2000), (1, .ref l1), (2, .ref l2), (3, .ref l3), (4, .int l4)] [] m) (l1 : Nat) (l2 : Nat) (l3 : Nat) (l4 : Int32) (m0 : ab_Mm) (z : (Int32 × ab_Mm)) (h : bb_L_law_346 g.2.2.2.2.1 g.2.2.2.2.2 r23 l1 l2 l3 l4 m0 = some z) : ab_W l g cL_law RL 9 (some .boolean) hh false (d2 + 1) (.inl (some (.int z.1))) z.2 346 [(0, .ref 2000), (1, .ref l1), (2, .ref l2), (3, .ref l3), (4, .int l4)] [] m0 := by
  unfold bb_L_law_346 at h
  refine ru_goto (tgt := 2330) dL_law_346 (by decide) <| ?_
  exact ru_pick [0, 1, 2, 3, 4] rfl (tbb_L_law_2330 hl0 hd _ hr23 _ _ _ _ _ _ h)
theorem tbb_L_law_23 {l : Launch} {g : ab_G} {hh : List (Nat × Nat × Nat × Nat)} (hl0 : l.stackTraces = false) {d2 : Nat} (hd : 42 ≤ d2 + 1)   : ∀ (n : Nat) (l1 : Nat) (l2 : Nat) (l3 : Nat) (l4 : Int32) (m0 : ab_Mm) (z : (Int32 × ab_Mm)), bb_L_law_23 g.2.2.2.2.1 g.2.2.2.2.2 n l1 l2 l3 l4 m0 = some z → ab_W l g cL_law RL 9 (some .boolean) hh false (d2 + 1) (.inl (some (.int z.1))) z.2 23 [(0, .ref 2000), (1, .ref l1), (2, .ref l2), (3, .ref l3), (4, .int l4)] [] m0 := by
  intro n
  induction n with
  | zero => intro l1 l2 l3 l4 m0 z h; cases h
  | succ n ih =>
    intro l1 l2 l3 l4 m0 z h
    rw [bb_L_law_23] at h
    refine ru_iload dL_law_23 rfl <| ru_aload_n (i := 0) dL_law_25 rfl rfl <| ru_scl dL_law_26 <| ru_bipush dL_law_27 kc_b_6 <| ru_isub dL_law_29 <| ?_
    refine ru_icmp_gt (tgt := 2336) dL_law_30 (by decide) (fun hc => ?_) (fun hc => ?_)
    · rw [if_pos hc] at h
      refine ru_iconst dL_law_2336 kc_i_1 <| ?_
      cases h
      exact ru_ret (v := some (.int _)) ⟨_, rfl, ab_nz1, dL_law_2337⟩
    · rw [if_neg hc] at h
      refine ru_aload_n (i := 0) dL_law_33 rfl rfl <| ru_iload dL_law_34 rfl <| ?_
      rcases ab_iff h with ⟨hc, h⟩ | ⟨hc, h⟩
      · cases h
      refine ru_sld hc dL_law_36 ?_
      refine ru_bipush dL_law_37 kc_b_63 <| ru_iand dL_law_39 <| ?_
      rcases ab_iff h with ⟨hc, h⟩ | ⟨hc0, h⟩
      · rw [hc]
        refine ru_tableIn (off := 180) (tgt := 220) dL_law_40 (by decide) (by decide) (by decide) (by decide) ?_
        refine ru_aload_n (i := 1) dL_law_220 rfl rfl <| ru_aload_n (i := 0) dL_law_221 rfl rfl <| ru_iload dL_law_222 rfl <| ru_iconst dL_law_224 kc_i_1 <| ru_iadd dL_law_225 <| ?_
        rcases ab_iff h with ⟨hc, h⟩ | ⟨hc, h⟩
        · cases h
        refine ru_sld hc dL_law_226 ?_
        refine ru_aload_n (i := 0) dL_law_227 rfl rfl <| ru_iload dL_law_228 rfl <| ru_iconst dL_law_230 kc_i_2 <| ru_iadd dL_law_231 <| ?_
        rcases ab_iff h with ⟨hc, h⟩ | ⟨hc, h⟩
        · cases h
        refine ru_sld hc dL_law_232 ?_
        refine ru_aload_n (i := 0) dL_law_233 rfl rfl <| ru_iload dL_law_234 rfl <| ru_iconst dL_law_236 kc_i_3 <| ru_iadd dL_law_237 <| ?_
        rcases ab_iff h with ⟨hc, h⟩ | ⟨hc, h⟩
        · cases h
        refine ru_sld hc dL_law_238 ?_
        refine ru_aload_n (i := 0) dL_law_239 rfl rfl <| ru_iload dL_law_240 rfl <| ru_iconst dL_law_242 kc_i_4 <| ru_iadd dL_law_243 <| ?_
        rcases ab_iff h with ⟨hc, h⟩ | ⟨hc, h⟩
        · cases h
        refine ru_sld hc dL_law_244 ?_
        refine ru_aload_n (i := 0) dL_law_245 rfl rfl <| ru_iload dL_law_246 rfl <| ru_iconst dL_law_248 kc_i_5 <| ru_iadd dL_law_249 <| ?_
        rcases ab_iff h with ⟨hc, h⟩ | ⟨hc, h⟩
        · cases h
        refine ru_sld hc dL_law_250 ?_
        obtain ⟨_, hrc, h⟩ := Option.bind_eq_some_iff.mp h
        obtain ⟨q8, hq8, h⟩ := Option.bind_eq_some_iff.mp h
        refine ru_callV (tm_X11_append hl0 (by omega) hq8) dL_law_251 rfl pm_L_118 mf_X11_append (ab_rcv_of hrc rfl) rfl rfl (Nat.le_of_ble_eq_true rfl) ?_
        refine ru_aload_n (i := 2) dL_law_254 rfl rfl <| ru_aload_n (i := 0) dL_law_255 rfl rfl <| ru_iload dL_law_256 rfl <| ru_iconst dL_law_258 kc_i_1 <| ru_iadd dL_law_259 <| ?_
        rcases ab_iff h with ⟨hc, h⟩ | ⟨hc, h⟩
        · cases h
        refine ru_sld hc dL_law_260 ?_
        refine ru_aload_n (i := 0) dL_law_261 rfl rfl <| ru_iload dL_law_262 rfl <| ru_iconst dL_law_264 kc_i_2 <| ru_iadd dL_law_265 <| ?_
        rcases ab_iff h with ⟨hc, h⟩ | ⟨hc, h⟩
        · cases h
        refine ru_sld hc dL_law_266 ?_
        refine ru_aload_n (i := 0) dL_law_267 rfl rfl <| ru_iload dL_law_268 rfl <| ru_iconst dL_law_270 kc_i_3 <| ru_iadd dL_law_271 <| ?_
        rcases ab_iff h with ⟨hc, h⟩ | ⟨hc, h⟩
        · cases h
        refine ru_sld hc dL_law_272 ?_
        refine ru_aload_n (i := 0) dL_law_273 rfl rfl <| ru_iload dL_law_274 rfl <| ru_iconst dL_law_276 kc_i_4 <| ru_iadd dL_law_277 <| ?_
        rcases ab_iff h with ⟨hc, h⟩ | ⟨hc, h⟩
        · cases h
        refine ru_sld hc dL_law_278 ?_
        refine ru_aload_n (i := 0) dL_law_279 rfl rfl <| ru_iload dL_law_280 rfl <| ru_iconst dL_law_282 kc_i_5 <| ru_iadd dL_law_283 <| ?_
        rcases ab_iff h with ⟨hc, h⟩ | ⟨hc, h⟩
        · cases h
        refine ru_sld hc dL_law_284 ?_
        obtain ⟨_, hrc, h⟩ := Option.bind_eq_some_iff.mp h
        obtain ⟨q14, hq14, h⟩ := Option.bind_eq_some_iff.mp h
        refine ru_callV (tm_X12_append hl0 (by omega) hq14) dL_law_285 rfl pm_L_122 mf_X12_append (ab_rcv_of hrc rfl) rfl rfl (Nat.le_of_ble_eq_true rfl) ?_
        refine ru_icmp_eq (tgt := 2330) dL_law_288 (by decide) (fun hc => ?_) (fun hc => ?_)
        · rw [if_pos hc] at h
          exact ru_pick [0, 1, 2, 3, 4] rfl (tbb_L_law_2330 hl0 hd _ ih _ _ _ _ _ _ h)
        · rw [if_neg hc] at h
          refine ru_iconst dL_law_291 kc_i_0 <| ?_
          cases h
          exact ru_ret (v := some (.int _)) ⟨_, rfl, ab_nz0, dL_law_292⟩
      rcases ab_iff h with ⟨hc, h⟩ | ⟨hc1, h⟩
      · rw [hc]
        refine ru_tableIn (off := 253) (tgt := 293) dL_law_40 (by decide) (by decide) (by decide) (by decide) ?_
        refine ru_aload_n (i := 1) dL_law_293 rfl rfl <| ru_aload_n (i := 0) dL_law_294 rfl rfl <| ru_iload dL_law_295 rfl <| ru_iconst dL_law_297 kc_i_1 <| ru_iadd dL_law_298 <| ?_
        rcases ab_iff h with ⟨hc, h⟩ | ⟨hc, h⟩
        · cases h
        refine ru_sld hc dL_law_299 ?_
        refine ru_aload_n (i := 3) dL_law_300 rfl rfl <| ?_
        obtain ⟨q16, hq16, h⟩ := Option.bind_eq_some_iff.mp h
        refine ru_callSH (tm_L_parse hl0 (by omega) hq16) dL_law_301 rfl pm_L_123 mf_L_parse rfl rfl (Nat.le_of_ble_eq_true rfl) ?_
        refine ru_istore dL_law_304 (by decide) <| ru_aload_n (i := 2) dL_law_306 rfl rfl <| ru_aload_n (i := 0) dL_law_307 rfl rfl <| ru_iload dL_law_308 rfl <| ru_iconst dL_law_310 kc_i_1 <| ru_iadd dL_law_311 <| ?_
        rcases ab_iff h with ⟨hc, h⟩ | ⟨hc, h⟩
        · cases h
        refine ru_sld hc dL_law_312 ?_
        obtain ⟨_, hrc, h⟩ := Option.bind_eq_some_iff.mp h
        obtain ⟨q18, hq18, h⟩ := Option.bind_eq_some_iff.mp h
        refine ru_callV (tm_X12_parse hl0 (by omega) hq18) dL_law_313 rfl pm_L_128 mf_X12_parse (ab_rcv_of hrc rfl) rfl rfl (Nat.le_of_ble_eq_true rfl) ?_
        refine ru_istore dL_law_316 (by decide) <| ru_aload_n (i := 2) dL_law_318 rfl rfl <| ?_
        obtain ⟨_, hrc, h⟩ := Option.bind_eq_some_iff.mp h
        obtain ⟨q19, hq19, h⟩ := Option.bind_eq_some_iff.mp h
        refine ru_callV (tm_X12_thrown hl0 (by omega) hq19) dL_law_319 rfl pm_L_129 mf_X12_thrown (ab_rcv_of hrc rfl) rfl rfl (Nat.le_of_ble_eq_true rfl) ?_
        refine ru_iload dL_law_322 rfl <| ?_
        refine ru_icmp_eq (tgt := 329) dL_law_324 (by decide) (fun hc => ?_) (fun hc => ?_)
        · rw [if_pos hc] at h
          refine ru_iload dL_law_329 rfl <| ?_
          refine ru_if_ne (tgt := 346) dL_law_331 (by decide) (fun hc => ?_) (fun hc => ?_)
          · rw [if_neg hc] at h
            exact ru_pick [0, 1, 2, 3, 4] rfl (tbb_L_law_346 hl0 hd _ ih _ _ _ _ _ _ h)
          · rw [if_pos hc] at h
            refine ru_aload_n (i := 3) dL_law_334 rfl rfl <| ru_iconst dL_law_335 kc_i_0 <| ?_
            refine ru_laload h dL_law_336 ?_
            intro v20 h
            refine ru_iload dL_law_337 rfl <| ru_i2l dL_law_339 <| ru_lcmp dL_law_340 <| ?_
            refine ru_if_eq (tgt := 346) dL_law_341 (by decide) (fun hc => ?_) (fun hc => ?_)
            · rw [if_pos hc] at h
              exact ru_pick [0, 1, 2, 3, 4] rfl (tbb_L_law_346 hl0 hd _ ih _ _ _ _ _ _ h)
            · rw [if_neg hc] at h
              refine ru_iconst dL_law_344 kc_i_0 <| ?_
              cases h
              exact ru_ret (v := some (.int _)) ⟨_, rfl, ab_nz0, dL_law_345⟩
        · rw [if_neg hc] at h
          refine ru_iconst dL_law_327 kc_i_0 <| ?_
          cases h
          exact ru_ret (v := some (.int _)) ⟨_, rfl, ab_nz0, dL_law_328⟩
      rcases ab_iff h with ⟨hc, h⟩ | ⟨hc2, h⟩
      · rw [hc]
        refine ru_tableIn (off := 309) (tgt := 349) dL_law_40 (by decide) (by decide) (by decide) (by decide) ?_
        refine ru_aload_n (i := 1) dL_law_349 rfl rfl <| ?_
        obtain ⟨_, hrc, h⟩ := Option.bind_eq_some_iff.mp h
        obtain ⟨q21, hq21, h⟩ := Option.bind_eq_some_iff.mp h
        refine ru_callV (tm_X11_errorPosition hl0 (by omega) hq21) dL_law_350 rfl pm_L_133 mf_X11_errorPosition (ab_rcv_of hrc rfl) rfl rfl (Nat.le_of_ble_eq_true rfl) ?_
        refine ru_aload_n (i := 2) dL_law_353 rfl rfl <| ?_
        obtain ⟨_, hrc, h⟩ := Option.bind_eq_some_iff.mp h
        obtain ⟨q22, hq22, h⟩ := Option.bind_eq_some_iff.mp h
        refine ru_callV (tm_X12_errorPosition hl0 (by omega) hq22) dL_law_354 rfl pm_L_136 mf_X12_errorPosition (ab_rcv_of hrc rfl) rfl rfl (Nat.le_of_ble_eq_true rfl) ?_
        refine ru_icmp_eq (tgt := 2330) dL_law_357 (by decide) (fun hc => ?_) (fun hc => ?_)
        · rw [if_pos hc] at h
          exact ru_pick [0, 1, 2, 3, 4] rfl (tbb_L_law_2330 hl0 hd _ ih _ _ _ _ _ _ h)
        · rw [if_neg hc] at h
          refine ru_iconst dL_law_360 kc_i_0 <| ?_
          cases h
          exact ru_ret (v := some (.int _)) ⟨_, rfl, ab_nz0, dL_law_361⟩
      rcases ab_iff h with ⟨hc, h⟩ | ⟨hc3, h⟩
      · rw [hc]
        refine ru_tableIn (off := 322) (tgt := 362) dL_law_40 (by decide) (by decide) (by decide) (by decide) ?_
        refine ru_aload_n (i := 1) dL_law_362 rfl rfl <| ?_
        obtain ⟨_, hrc, h⟩ := Option.bind_eq_some_iff.mp h
        obtain ⟨q23, hq23, h⟩ := Option.bind_eq_some_iff.mp h
        refine ru_callV (tm_X11_hostCount hl0 (by omega) hq23) dL_law_363 rfl pm_L_137 mf_X11_hostCount (ab_rcv_of hrc rfl) rfl rfl (Nat.le_of_ble_eq_true rfl) ?_
        refine ru_aload_n (i := 2) dL_law_366 rfl rfl <| ?_
        obtain ⟨_, hrc, h⟩ := Option.bind_eq_some_iff.mp h
        obtain ⟨q24, hq24, h⟩ := Option.bind_eq_some_iff.mp h
        refine ru_callV (tm_X12_hostCount hl0 (by omega) hq24) dL_law_367 rfl pm_L_140 mf_X12_hostCount (ab_rcv_of hrc rfl) rfl rfl (Nat.le_of_ble_eq_true rfl) ?_
        refine ru_icmp_eq (tgt := 2330) dL_law_370 (by decide) (fun hc => ?_) (fun hc => ?_)
        · rw [if_pos hc] at h
          exact ru_pick [0, 1, 2, 3, 4] rfl (tbb_L_law_2330 hl0 hd _ ih _ _ _ _ _ _ h)
        · rw [if_neg hc] at h
          refine ru_iconst dL_law_373 kc_i_0 <| ?_
          cases h
          exact ru_ret (v := some (.int _)) ⟨_, rfl, ab_nz0, dL_law_374⟩
      rcases ab_iff h with ⟨hc, h⟩ | ⟨hc4, h⟩
      · rw [hc]
        refine ru_tableIn (off := 335) (tgt := 375) dL_law_40 (by decide) (by decide) (by decide) (by decide) ?_
        refine ru_aload_n (i := 1) dL_law_375 rfl rfl <| ?_
        obtain ⟨_, hrc, h⟩ := Option.bind_eq_some_iff.mp h
        obtain ⟨q25, hq25, h⟩ := Option.bind_eq_some_iff.mp h
        refine ru_callV (tm_X11_clock hl0 (by omega) hq25) dL_law_376 rfl pm_L_141 mf_X11_clock (ab_rcv_of hrc rfl) rfl rfl (Nat.le_of_ble_eq_true rfl) ?_
        refine ru_aload_n (i := 2) dL_law_379 rfl rfl <| ?_
        obtain ⟨_, hrc, h⟩ := Option.bind_eq_some_iff.mp h
        obtain ⟨q26, hq26, h⟩ := Option.bind_eq_some_iff.mp h
        refine ru_callV (tm_X12_clock hl0 (by omega) hq26) dL_law_380 rfl pm_L_144 mf_X12_clock (ab_rcv_of hrc rfl) rfl rfl (Nat.le_of_ble_eq_true rfl) ?_
        refine ru_icmp_eq (tgt := 2330) dL_law_383 (by decide) (fun hc => ?_) (fun hc => ?_)
        · rw [if_pos hc] at h
          exact ru_pick [0, 1, 2, 3, 4] rfl (tbb_L_law_2330 hl0 hd _ ih _ _ _ _ _ _ h)
        · rw [if_neg hc] at h
          refine ru_iconst dL_law_386 kc_i_0 <| ?_
          cases h
          exact ru_ret (v := some (.int _)) ⟨_, rfl, ab_nz0, dL_law_387⟩
      rcases ab_iff h with ⟨hc, h⟩ | ⟨hc5, h⟩
      · rw [hc]
        refine ru_tableIn (off := 348) (tgt := 388) dL_law_40 (by decide) (by decide) (by decide) (by decide) ?_
        refine ru_aload_n (i := 1) dL_law_388 rfl rfl <| ru_aload_n (i := 0) dL_law_389 rfl rfl <| ru_iload dL_law_390 rfl <| ru_iconst dL_law_392 kc_i_1 <| ru_iadd dL_law_393 <| ?_
        rcases ab_iff h with ⟨hc, h⟩ | ⟨hc, h⟩
        · cases h
        refine ru_sld hc dL_law_394 ?_
        refine ru_aload_n (i := 0) dL_law_395 rfl rfl <| ru_iload dL_law_396 rfl <| ru_iconst dL_law_398 kc_i_2 <| ru_iadd dL_law_399 <| ?_
        rcases ab_iff h with ⟨hc, h⟩ | ⟨hc, h⟩
        · cases h
        refine ru_sld hc dL_law_400 ?_
        refine ru_if_eq (tgt := 408) dL_law_401 (by decide) (fun hc => ?_) (fun hc => ?_)
        · rw [if_pos hc] at h
          refine ru_iconst dL_law_408 kc_i_0 <| ?_
          exact ru_pick [0, 1, 2, 3, 4] rfl (tbb_L_law_409 hl0 hd _ ih _ _ _ _ _ _ _ _ _ h)
        · rw [if_neg hc] at h
          refine ru_iconst dL_law_404 kc_i_1 <| ru_goto (tgt := 409) dL_law_405 (by decide) <| ?_
          exact ru_pick [0, 1, 2, 3, 4] rfl (tbb_L_law_409 hl0 hd _ ih _ _ _ _ _ _ _ _ _ h)
      rcases ab_iff h with ⟨hc, h⟩ | ⟨hc6, h⟩
      · rw [hc]
        refine ru_tableIn (off := 432) (tgt := 472) dL_law_40 (by decide) (by decide) (by decide) (by decide) ?_
        refine ru_aload_n (i := 1) dL_law_472 rfl rfl <| ru_aload_n (i := 0) dL_law_473 rfl rfl <| ru_iload dL_law_474 rfl <| ru_iconst dL_law_476 kc_i_1 <| ru_iadd dL_law_477 <| ?_
        rcases ab_iff h with ⟨hc, h⟩ | ⟨hc, h⟩
        · cases h
        refine ru_sld hc dL_law_478 ?_
        refine ru_aload_n (i := 3) dL_law_479 rfl rfl <| ?_
        obtain ⟨q30, hq30, h⟩ := Option.bind_eq_some_iff.mp h
        refine ru_callSH (tm_L_instancesOn hl0 (by omega) hq30) dL_law_480 rfl pm_L_149 mf_L_instancesOn rfl rfl (Nat.le_of_ble_eq_true rfl) ?_
        refine ru_istore dL_law_483 (by decide) <| ru_aload_n (i := 2) dL_law_485 rfl rfl <| ru_aload_n (i := 0) dL_law_486 rfl rfl <| ru_iload dL_law_487 rfl <| ru_iconst dL_law_489 kc_i_1 <| ru_iadd dL_law_490 <| ?_
        rcases ab_iff h with ⟨hc, h⟩ | ⟨hc, h⟩
        · cases h
        refine ru_sld hc dL_law_491 ?_
        obtain ⟨_, hrc, h⟩ := Option.bind_eq_some_iff.mp h
        obtain ⟨q32, hq32, h⟩ := Option.bind_eq_some_iff.mp h
        refine ru_callV (tm_X12_instancesOn hl0 (by omega) hq32) dL_law_492 rfl pm_L_151 mf_X12_instancesOn (ab_rcv_of hrc rfl) rfl rfl (Nat.le_of_ble_eq_true rfl) ?_
        refine ru_istore dL_law_495 (by decide) <| ru_aload_n (i := 2) dL_law_497 rfl rfl <| ?_
        obtain ⟨_, hrc, h⟩ := Option.bind_eq_some_iff.mp h
        obtain ⟨q33, hq33, h⟩ := Option.bind_eq_some_iff.mp h
        refine ru_callV (tm_X12_thrown hl0 (by omega) hq33) dL_law_498 rfl pm_L_129 mf_X12_thrown (ab_rcv_of hrc rfl) rfl rfl (Nat.le_of_ble_eq_true rfl) ?_
        refine ru_iload dL_law_501 rfl <| ?_
        refine ru_icmp_eq (tgt := 508) dL_law_503 (by decide) (fun hc => ?_) (fun hc => ?_)
        · rw [if_pos hc] at h
          refine ru_iload dL_law_508 rfl <| ?_
          refine ru_if_ne (tgt := 525) dL_law_510 (by decide) (fun hc => ?_) (fun hc => ?_)
          · rw [if_neg hc] at h
            exact ru_pick [0, 1, 2, 3, 4] rfl (tbb_L_law_525 hl0 hd _ ih _ _ _ _ _ _ h)
          · rw [if_pos hc] at h
            refine ru_aload_n (i := 3) dL_law_513 rfl rfl <| ru_iconst dL_law_514 kc_i_0 <| ?_
            refine ru_laload h dL_law_515 ?_
            intro v34 h
            refine ru_iload dL_law_516 rfl <| ru_i2l dL_law_518 <| ru_lcmp dL_law_519 <| ?_
            refine ru_if_eq (tgt := 525) dL_law_520 (by decide) (fun hc => ?_) (fun hc => ?_)
            · rw [if_pos hc] at h
              exact ru_pick [0, 1, 2, 3, 4] rfl (tbb_L_law_525 hl0 hd _ ih _ _ _ _ _ _ h)
            · rw [if_neg hc] at h
              refine ru_iconst dL_law_523 kc_i_0 <| ?_
              cases h
              exact ru_ret (v := some (.int _)) ⟨_, rfl, ab_nz0, dL_law_524⟩
        · rw [if_neg hc] at h
          refine ru_iconst dL_law_506 kc_i_0 <| ?_
          cases h
          exact ru_ret (v := some (.int _)) ⟨_, rfl, ab_nz0, dL_law_507⟩
      rcases ab_iff h with ⟨hc, h⟩ | ⟨hc7, h⟩
      · rw [hc]
        refine ru_tableIn (off := 488) (tgt := 528) dL_law_40 (by decide) (by decide) (by decide) (by decide) ?_
        refine ru_aload_n (i := 1) dL_law_528 rfl rfl <| ?_
        obtain ⟨_, hrc, h⟩ := Option.bind_eq_some_iff.mp h
        obtain ⟨q35, hq35, h⟩ := Option.bind_eq_some_iff.mp h
        refine ru_callV (tm_X11_utilisation hl0 (by omega) hq35) dL_law_529 rfl pm_L_152 mf_X11_utilisation (ab_rcv_of hrc rfl) rfl rfl (Nat.le_of_ble_eq_true rfl) ?_
        refine ru_dstore dL_law_532 (by decide) <| ru_aload_n (i := 2) dL_law_534 rfl rfl <| ?_
        obtain ⟨_, hrc, h⟩ := Option.bind_eq_some_iff.mp h
        obtain ⟨q36, hq36, h⟩ := Option.bind_eq_some_iff.mp h
        refine ru_callV (tm_X12_utilisation hl0 (by omega) hq36) dL_law_535 rfl pm_L_156 mf_X12_utilisation (ab_rcv_of hrc rfl) rfl rfl (Nat.le_of_ble_eq_true rfl) ?_
        refine ru_dstore dL_law_538 (by decide) <| ru_dload dL_law_540 rfl <| ru_dload dL_law_542 rfl <| ru_dcmp dL_law_544 <| ?_
        refine ru_if_eq (tgt := 566) dL_law_545 (by decide) (fun hc => ?_) (fun hc => ?_)
        · rw [if_pos hc] at h
          exact ru_pick [0, 1, 2, 3, 4] rfl (tbb_L_law_566 hl0 hd _ ih _ _ _ _ _ _ h)
        · rw [if_neg hc] at h
          refine ru_dload dL_law_548 rfl <| ru_dload dL_law_550 rfl <| ru_dcmp dL_law_552 <| ?_
          refine ru_if_eq (tgt := 564) dL_law_553 (by decide) (fun hc => ?_) (fun hc => ?_)
          · rw [if_pos hc] at h
            exact ru_pick [] rfl (tbb_L_law_564 hl0 hd    _ _ h)
          · rw [if_neg hc] at h
            refine ru_dload dL_law_556 rfl <| ru_dload dL_law_558 rfl <| ru_dcmp dL_law_560 <| ?_
            refine ru_if_ne (tgt := 566) dL_law_561 (by decide) (fun hc => ?_) (fun hc => ?_)
            · rw [if_neg hc] at h
              exact ru_pick [0, 1, 2, 3, 4] rfl (tbb_L_law_566 hl0 hd _ ih _ _ _ _ _ _ h)
            · rw [if_pos hc] at h
              exact ru_pick [] rfl (tbb_L_law_564 hl0 hd    _ _ h)
      rcases ab_iff h with ⟨hc, h⟩ | ⟨hc8, h⟩
      · rw [hc]
        refine ru_tableIn (off := 529) (tgt := 569) dL_law_40 (by decide) (by decide) (by decide) (by decide) ?_
        refine ru_aload_n (i := 1) dL_law_569 rfl rfl <| ru_aload_n (i := 0) dL_law_570 rfl rfl <| ru_iload dL_law_571 rfl <| ru_iconst dL_law_573 kc_i_1 <| ru_iadd dL_law_574 <| ?_
        rcases ab_iff h with ⟨hc, h⟩ | ⟨hc, h⟩
        · cases h
        refine ru_sld hc dL_law_575 ?_
        refine ru_aload_n (i := 3) dL_law_576 rfl rfl <| ?_
        obtain ⟨q38, hq38, h⟩ := Option.bind_eq_some_iff.mp h
        refine ru_callSH (tm_L_spotPrice hl0 (by omega) hq38) dL_law_577 rfl pm_L_157 mf_L_spotPrice rfl rfl (Nat.le_of_ble_eq_true rfl) ?_
        refine ru_istore dL_law_580 (by decide) <| ru_aload_n (i := 2) dL_law_582 rfl rfl <| ru_aload_n (i := 0) dL_law_583 rfl rfl <| ru_iload dL_law_584 rfl <| ru_iconst dL_law_586 kc_i_1 <| ru_iadd dL_law_587 <| ?_
        rcases ab_iff h with ⟨hc, h⟩ | ⟨hc, h⟩
        · cases h
        refine ru_sld hc dL_law_588 ?_
        obtain ⟨_, hrc, h⟩ := Option.bind_eq_some_iff.mp h
        obtain ⟨q40, hq40, h⟩ := Option.bind_eq_some_iff.mp h
        refine ru_callV (tm_X12_spotPrice hl0 (by omega) hq40) dL_law_589 rfl pm_L_159 mf_X12_spotPrice (ab_rcv_of hrc rfl) rfl rfl (Nat.le_of_ble_eq_true rfl) ?_
        refine ru_istore dL_law_592 (by decide) <| ru_aload_n (i := 2) dL_law_594 rfl rfl <| ?_
        obtain ⟨_, hrc, h⟩ := Option.bind_eq_some_iff.mp h
        obtain ⟨q41, hq41, h⟩ := Option.bind_eq_some_iff.mp h
        refine ru_callV (tm_X12_thrown hl0 (by omega) hq41) dL_law_595 rfl pm_L_129 mf_X12_thrown (ab_rcv_of hrc rfl) rfl rfl (Nat.le_of_ble_eq_true rfl) ?_
        refine ru_iload dL_law_598 rfl <| ?_
        refine ru_icmp_eq (tgt := 605) dL_law_600 (by decide) (fun hc => ?_) (fun hc => ?_)
        · rw [if_pos hc] at h
          refine ru_iload dL_law_605 rfl <| ?_
          refine ru_if_ne (tgt := 622) dL_law_607 (by decide) (fun hc => ?_) (fun hc => ?_)
          · rw [if_neg hc] at h
            exact ru_pick [0, 1, 2, 3, 4] rfl (tbb_L_law_622 hl0 hd _ ih _ _ _ _ _ _ h)
          · rw [if_pos hc] at h
            refine ru_aload_n (i := 3) dL_law_610 rfl rfl <| ru_iconst dL_law_611 kc_i_0 <| ?_
            refine ru_laload h dL_law_612 ?_
            intro v42 h
            refine ru_iload dL_law_613 rfl <| ru_i2l dL_law_615 <| ru_lcmp dL_law_616 <| ?_
            refine ru_if_eq (tgt := 622) dL_law_617 (by decide) (fun hc => ?_) (fun hc => ?_)
            · rw [if_pos hc] at h
              exact ru_pick [0, 1, 2, 3, 4] rfl (tbb_L_law_622 hl0 hd _ ih _ _ _ _ _ _ h)
            · rw [if_neg hc] at h
              refine ru_iconst dL_law_620 kc_i_0 <| ?_
              cases h
              exact ru_ret (v := some (.int _)) ⟨_, rfl, ab_nz0, dL_law_621⟩
        · rw [if_neg hc] at h
          refine ru_iconst dL_law_603 kc_i_0 <| ?_
          cases h
          exact ru_ret (v := some (.int _)) ⟨_, rfl, ab_nz0, dL_law_604⟩
      rcases ab_iff h with ⟨hc, h⟩ | ⟨hc9, h⟩
      · rw [hc]
        refine ru_tableIn (off := 585) (tgt := 625) dL_law_40 (by decide) (by decide) (by decide) (by decide) ?_
        refine ru_aload_n (i := 1) dL_law_625 rfl rfl <| ru_aload_n (i := 0) dL_law_626 rfl rfl <| ru_iload dL_law_627 rfl <| ru_iconst dL_law_629 kc_i_1 <| ru_iadd dL_law_630 <| ?_
        rcases ab_iff h with ⟨hc, h⟩ | ⟨hc, h⟩
        · cases h
        refine ru_sld hc dL_law_631 ?_
        refine ru_aload_n (i := 3) dL_law_632 rfl rfl <| ?_
        obtain ⟨q44, hq44, h⟩ := Option.bind_eq_some_iff.mp h
        refine ru_callSH (tm_L_bestHost hl0 (by omega) hq44) dL_law_633 rfl pm_L_160 mf_L_bestHost rfl rfl (Nat.le_of_ble_eq_true rfl) ?_
        refine ru_istore dL_law_636 (by decide) <| ru_aload_n (i := 2) dL_law_638 rfl rfl <| ru_aload_n (i := 0) dL_law_639 rfl rfl <| ru_iload dL_law_640 rfl <| ru_iconst dL_law_642 kc_i_1 <| ru_iadd dL_law_643 <| ?_
        rcases ab_iff h with ⟨hc, h⟩ | ⟨hc, h⟩
        · cases h
        refine ru_sld hc dL_law_644 ?_
        obtain ⟨_, hrc, h⟩ := Option.bind_eq_some_iff.mp h
        obtain ⟨q46, hq46, h⟩ := Option.bind_eq_some_iff.mp h
        refine ru_callV (tm_X12_bestHost hl0 (by omega) hq46) dL_law_645 rfl pm_L_162 mf_X12_bestHost (ab_rcv_of hrc rfl) rfl rfl (Nat.le_of_ble_eq_true rfl) ?_
        refine ru_istore dL_law_648 (by decide) <| ru_aload_n (i := 2) dL_law_650 rfl rfl <| ?_
        obtain ⟨_, hrc, h⟩ := Option.bind_eq_some_iff.mp h
        obtain ⟨q47, hq47, h⟩ := Option.bind_eq_some_iff.mp h
        refine ru_callV (tm_X12_thrown hl0 (by omega) hq47) dL_law_651 rfl pm_L_129 mf_X12_thrown (ab_rcv_of hrc rfl) rfl rfl (Nat.le_of_ble_eq_true rfl) ?_
        refine ru_iload dL_law_654 rfl <| ?_
        refine ru_icmp_eq (tgt := 661) dL_law_656 (by decide) (fun hc => ?_) (fun hc => ?_)
        · rw [if_pos hc] at h
          refine ru_iload dL_law_661 rfl <| ?_
          refine ru_if_ne (tgt := 678) dL_law_663 (by decide) (fun hc => ?_) (fun hc => ?_)
          · rw [if_neg hc] at h
            exact ru_pick [0, 1, 2, 3, 4] rfl (tbb_L_law_678 hl0 hd _ ih _ _ _ _ _ _ h)
          · rw [if_pos hc] at h
            refine ru_aload_n (i := 3) dL_law_666 rfl rfl <| ru_iconst dL_law_667 kc_i_0 <| ?_
            refine ru_laload h dL_law_668 ?_
            intro v48 h
            refine ru_iload dL_law_669 rfl <| ru_i2l dL_law_671 <| ru_lcmp dL_law_672 <| ?_
            refine ru_if_eq (tgt := 678) dL_law_673 (by decide) (fun hc => ?_) (fun hc => ?_)
            · rw [if_pos hc] at h
              exact ru_pick [0, 1, 2, 3, 4] rfl (tbb_L_law_678 hl0 hd _ ih _ _ _ _ _ _ h)
            · rw [if_neg hc] at h
              refine ru_iconst dL_law_676 kc_i_0 <| ?_
              cases h
              exact ru_ret (v := some (.int _)) ⟨_, rfl, ab_nz0, dL_law_677⟩
        · rw [if_neg hc] at h
          refine ru_iconst dL_law_659 kc_i_0 <| ?_
          cases h
          exact ru_ret (v := some (.int _)) ⟨_, rfl, ab_nz0, dL_law_660⟩
      rcases ab_iff h with ⟨hc, h⟩ | ⟨hc10, h⟩
      · rw [hc]
        refine ru_tableIn (off := 641) (tgt := 681) dL_law_40 (by decide) (by decide) (by decide) (by decide) ?_
        refine ru_aload_n (i := 1) dL_law_681 rfl rfl <| ru_aload_n (i := 0) dL_law_682 rfl rfl <| ru_iload dL_law_683 rfl <| ru_iconst dL_law_685 kc_i_1 <| ru_iadd dL_law_686 <| ?_
        rcases ab_iff h with ⟨hc, h⟩ | ⟨hc, h⟩
        · cases h
        refine ru_sld hc dL_law_687 ?_
        refine ru_aload_n (i := 3) dL_law_688 rfl rfl <| ?_
        obtain ⟨q50, hq50, h⟩ := Option.bind_eq_some_iff.mp h
        refine ru_callSH (tm_L_room hl0 (by omega) hq50) dL_law_689 rfl pm_L_163 mf_L_room rfl rfl (Nat.le_of_ble_eq_true rfl) ?_
        refine ru_istore dL_law_692 (by decide) <| ru_aload_n (i := 2) dL_law_694 rfl rfl <| ru_aload_n (i := 0) dL_law_695 rfl rfl <| ru_iload dL_law_696 rfl <| ru_iconst dL_law_698 kc_i_1 <| ru_iadd dL_law_699 <| ?_
        rcases ab_iff h with ⟨hc, h⟩ | ⟨hc, h⟩
        · cases h
        refine ru_sld hc dL_law_700 ?_
        obtain ⟨_, hrc, h⟩ := Option.bind_eq_some_iff.mp h
        obtain ⟨q52, hq52, h⟩ := Option.bind_eq_some_iff.mp h
        refine ru_callV (tm_X12_room hl0 (by omega) hq52) dL_law_701 rfl pm_L_165 mf_X12_room (ab_rcv_of hrc rfl) rfl rfl (Nat.le_of_ble_eq_true rfl) ?_
        refine ru_istore dL_law_704 (by decide) <| ru_aload_n (i := 2) dL_law_706 rfl rfl <| ?_
        obtain ⟨_, hrc, h⟩ := Option.bind_eq_some_iff.mp h
        obtain ⟨q53, hq53, h⟩ := Option.bind_eq_some_iff.mp h
        refine ru_callV (tm_X12_thrown hl0 (by omega) hq53) dL_law_707 rfl pm_L_129 mf_X12_thrown (ab_rcv_of hrc rfl) rfl rfl (Nat.le_of_ble_eq_true rfl) ?_
        refine ru_iload dL_law_710 rfl <| ?_
        refine ru_icmp_eq (tgt := 717) dL_law_712 (by decide) (fun hc => ?_) (fun hc => ?_)
        · rw [if_pos hc] at h
          refine ru_iload dL_law_717 rfl <| ?_
          refine ru_if_ne (tgt := 734) dL_law_719 (by decide) (fun hc => ?_) (fun hc => ?_)
          · rw [if_neg hc] at h
            exact ru_pick [0, 1, 2, 3, 4] rfl (tbb_L_law_734 hl0 hd _ ih _ _ _ _ _ _ h)
          · rw [if_pos hc] at h
            refine ru_aload_n (i := 3) dL_law_722 rfl rfl <| ru_iconst dL_law_723 kc_i_0 <| ?_
            refine ru_laload h dL_law_724 ?_
            intro v54 h
            refine ru_iload dL_law_725 rfl <| ru_i2l dL_law_727 <| ru_lcmp dL_law_728 <| ?_
            refine ru_if_eq (tgt := 734) dL_law_729 (by decide) (fun hc => ?_) (fun hc => ?_)
            · rw [if_pos hc] at h
              exact ru_pick [0, 1, 2, 3, 4] rfl (tbb_L_law_734 hl0 hd _ ih _ _ _ _ _ _ h)
            · rw [if_neg hc] at h
              refine ru_iconst dL_law_732 kc_i_0 <| ?_
              cases h
              exact ru_ret (v := some (.int _)) ⟨_, rfl, ab_nz0, dL_law_733⟩
        · rw [if_neg hc] at h
          refine ru_iconst dL_law_715 kc_i_0 <| ?_
          cases h
          exact ru_ret (v := some (.int _)) ⟨_, rfl, ab_nz0, dL_law_716⟩
      rcases ab_iff h with ⟨hc, h⟩ | ⟨hc11, h⟩
      · rw [hc]
        refine ru_tableIn (off := 697) (tgt := 737) dL_law_40 (by decide) (by decide) (by decide) (by decide) ?_
        refine ru_aload_n (i := 1) dL_law_737 rfl rfl <| ?_
        obtain ⟨_, hrc, h⟩ := Option.bind_eq_some_iff.mp h
        obtain ⟨q55, hq55, h⟩ := Option.bind_eq_some_iff.mp h
        refine ru_callV (tm_X11_running hl0 (by omega) hq55) dL_law_738 rfl pm_L_166 mf_X11_running (ab_rcv_of hrc rfl) rfl rfl (Nat.le_of_ble_eq_true rfl) ?_
        refine ru_aload_n (i := 2) dL_law_741 rfl rfl <| ?_
        obtain ⟨_, hrc, h⟩ := Option.bind_eq_some_iff.mp h
        obtain ⟨q56, hq56, h⟩ := Option.bind_eq_some_iff.mp h
        refine ru_callV (tm_X12_running hl0 (by omega) hq56) dL_law_742 rfl pm_L_169 mf_X12_running (ab_rcv_of hrc rfl) rfl rfl (Nat.le_of_ble_eq_true rfl) ?_
        refine ru_icmp_eq (tgt := 2330) dL_law_745 (by decide) (fun hc => ?_) (fun hc => ?_)
        · rw [if_pos hc] at h
          exact ru_pick [0, 1, 2, 3, 4] rfl (tbb_L_law_2330 hl0 hd _ ih _ _ _ _ _ _ h)
        · rw [if_neg hc] at h
          refine ru_iconst dL_law_748 kc_i_0 <| ?_
          cases h
          exact ru_ret (v := some (.int _)) ⟨_, rfl, ab_nz0, dL_law_749⟩
      rcases ab_iff h with ⟨hc, h⟩ | ⟨hc12, h⟩
      · rw [hc]
        refine ru_tableIn (off := 710) (tgt := 750) dL_law_40 (by decide) (by decide) (by decide) (by decide) ?_
        refine ru_aload_n (i := 1) dL_law_750 rfl rfl <| ru_aload_n (i := 0) dL_law_751 rfl rfl <| ru_iload dL_law_752 rfl <| ru_iconst dL_law_754 kc_i_1 <| ru_iadd dL_law_755 <| ?_
        rcases ab_iff h with ⟨hc, h⟩ | ⟨hc, h⟩
        · cases h
        refine ru_sld hc dL_law_756 ?_
        refine ru_aload_n (i := 3) dL_law_757 rfl rfl <| ?_
        obtain ⟨q58, hq58, h⟩ := Option.bind_eq_some_iff.mp h
        refine ru_callSH (tm_L_typeOf hl0 (by omega) hq58) dL_law_758 rfl pm_L_170 mf_L_typeOf rfl rfl (Nat.le_of_ble_eq_true rfl) ?_
        refine ru_istore dL_law_761 (by decide) <| ru_aload_n (i := 2) dL_law_763 rfl rfl <| ru_aload_n (i := 0) dL_law_764 rfl rfl <| ru_iload dL_law_765 rfl <| ru_iconst dL_law_767 kc_i_1 <| ru_iadd dL_law_768 <| ?_
        rcases ab_iff h with ⟨hc, h⟩ | ⟨hc, h⟩
        · cases h
        refine ru_sld hc dL_law_769 ?_
        obtain ⟨_, hrc, h⟩ := Option.bind_eq_some_iff.mp h
        obtain ⟨q60, hq60, h⟩ := Option.bind_eq_some_iff.mp h
        refine ru_callV (tm_X12_typeOf hl0 (by omega) hq60) dL_law_770 rfl pm_L_172 mf_X12_typeOf (ab_rcv_of hrc rfl) rfl rfl (Nat.le_of_ble_eq_true rfl) ?_
        refine ru_istore dL_law_773 (by decide) <| ru_aload_n (i := 2) dL_law_775 rfl rfl <| ?_
        obtain ⟨_, hrc, h⟩ := Option.bind_eq_some_iff.mp h
        obtain ⟨q61, hq61, h⟩ := Option.bind_eq_some_iff.mp h
        refine ru_callV (tm_X12_thrown hl0 (by omega) hq61) dL_law_776 rfl pm_L_129 mf_X12_thrown (ab_rcv_of hrc rfl) rfl rfl (Nat.le_of_ble_eq_true rfl) ?_
        refine ru_iload dL_law_779 rfl <| ?_
        refine ru_icmp_eq (tgt := 786) dL_law_781 (by decide) (fun hc => ?_) (fun hc => ?_)
        · rw [if_pos hc] at h
          refine ru_iload dL_law_786 rfl <| ?_
          refine ru_if_ne (tgt := 803) dL_law_788 (by decide) (fun hc => ?_) (fun hc => ?_)
          · rw [if_neg hc] at h
            exact ru_pick [0, 1, 2, 3, 4] rfl (tbb_L_law_803 hl0 hd _ ih _ _ _ _ _ _ h)
          · rw [if_pos hc] at h
            refine ru_aload_n (i := 3) dL_law_791 rfl rfl <| ru_iconst dL_law_792 kc_i_0 <| ?_
            refine ru_laload h dL_law_793 ?_
            intro v62 h
            refine ru_iload dL_law_794 rfl <| ru_i2l dL_law_796 <| ru_lcmp dL_law_797 <| ?_
            refine ru_if_eq (tgt := 803) dL_law_798 (by decide) (fun hc => ?_) (fun hc => ?_)
            · rw [if_pos hc] at h
              exact ru_pick [0, 1, 2, 3, 4] rfl (tbb_L_law_803 hl0 hd _ ih _ _ _ _ _ _ h)
            · rw [if_neg hc] at h
              refine ru_iconst dL_law_801 kc_i_0 <| ?_
              cases h
              exact ru_ret (v := some (.int _)) ⟨_, rfl, ab_nz0, dL_law_802⟩
        · rw [if_neg hc] at h
          refine ru_iconst dL_law_784 kc_i_0 <| ?_
          cases h
          exact ru_ret (v := some (.int _)) ⟨_, rfl, ab_nz0, dL_law_785⟩
      rcases ab_iff h with ⟨hc, h⟩ | ⟨hc13, h⟩
      · rw [hc]
        refine ru_tableIn (off := 766) (tgt := 806) dL_law_40 (by decide) (by decide) (by decide) (by decide) ?_
        refine ru_aload_n (i := 1) dL_law_806 rfl rfl <| ru_aload_n (i := 0) dL_law_807 rfl rfl <| ru_iload dL_law_808 rfl <| ru_iconst dL_law_810 kc_i_1 <| ru_iadd dL_law_811 <| ?_
        rcases ab_iff h with ⟨hc, h⟩ | ⟨hc, h⟩
        · cases h
        refine ru_sld hc dL_law_812 ?_
        refine ru_aload_n (i := 3) dL_law_813 rfl rfl <| ?_
        obtain ⟨q64, hq64, h⟩ := Option.bind_eq_some_iff.mp h
        refine ru_callSH (tm_L_tenantOf hl0 (by omega) hq64) dL_law_814 rfl pm_L_173 mf_L_tenantOf rfl rfl (Nat.le_of_ble_eq_true rfl) ?_
        refine ru_istore dL_law_817 (by decide) <| ru_aload_n (i := 2) dL_law_819 rfl rfl <| ru_aload_n (i := 0) dL_law_820 rfl rfl <| ru_iload dL_law_821 rfl <| ru_iconst dL_law_823 kc_i_1 <| ru_iadd dL_law_824 <| ?_
        rcases ab_iff h with ⟨hc, h⟩ | ⟨hc, h⟩
        · cases h
        refine ru_sld hc dL_law_825 ?_
        obtain ⟨_, hrc, h⟩ := Option.bind_eq_some_iff.mp h
        obtain ⟨q66, hq66, h⟩ := Option.bind_eq_some_iff.mp h
        refine ru_callV (tm_X12_tenantOf hl0 (by omega) hq66) dL_law_826 rfl pm_L_175 mf_X12_tenantOf (ab_rcv_of hrc rfl) rfl rfl (Nat.le_of_ble_eq_true rfl) ?_
        refine ru_istore dL_law_829 (by decide) <| ru_aload_n (i := 2) dL_law_831 rfl rfl <| ?_
        obtain ⟨_, hrc, h⟩ := Option.bind_eq_some_iff.mp h
        obtain ⟨q67, hq67, h⟩ := Option.bind_eq_some_iff.mp h
        refine ru_callV (tm_X12_thrown hl0 (by omega) hq67) dL_law_832 rfl pm_L_129 mf_X12_thrown (ab_rcv_of hrc rfl) rfl rfl (Nat.le_of_ble_eq_true rfl) ?_
        refine ru_iload dL_law_835 rfl <| ?_
        refine ru_icmp_eq (tgt := 842) dL_law_837 (by decide) (fun hc => ?_) (fun hc => ?_)
        · rw [if_pos hc] at h
          refine ru_iload dL_law_842 rfl <| ?_
          refine ru_if_ne (tgt := 859) dL_law_844 (by decide) (fun hc => ?_) (fun hc => ?_)
          · rw [if_neg hc] at h
            exact ru_pick [0, 1, 2, 3, 4] rfl (tbb_L_law_859 hl0 hd _ ih _ _ _ _ _ _ h)
          · rw [if_pos hc] at h
            refine ru_aload_n (i := 3) dL_law_847 rfl rfl <| ru_iconst dL_law_848 kc_i_0 <| ?_
            refine ru_laload h dL_law_849 ?_
            intro v68 h
            refine ru_iload dL_law_850 rfl <| ru_i2l dL_law_852 <| ru_lcmp dL_law_853 <| ?_
            refine ru_if_eq (tgt := 859) dL_law_854 (by decide) (fun hc => ?_) (fun hc => ?_)
            · rw [if_pos hc] at h
              exact ru_pick [0, 1, 2, 3, 4] rfl (tbb_L_law_859 hl0 hd _ ih _ _ _ _ _ _ h)
            · rw [if_neg hc] at h
              refine ru_iconst dL_law_857 kc_i_0 <| ?_
              cases h
              exact ru_ret (v := some (.int _)) ⟨_, rfl, ab_nz0, dL_law_858⟩
        · rw [if_neg hc] at h
          refine ru_iconst dL_law_840 kc_i_0 <| ?_
          cases h
          exact ru_ret (v := some (.int _)) ⟨_, rfl, ab_nz0, dL_law_841⟩
      rcases ab_iff h with ⟨hc, h⟩ | ⟨hc14, h⟩
      · rw [hc]
        refine ru_tableIn (off := 822) (tgt := 862) dL_law_40 (by decide) (by decide) (by decide) (by decide) ?_
        refine ru_aload_n (i := 1) dL_law_862 rfl rfl <| ru_aload_n (i := 0) dL_law_863 rfl rfl <| ru_iload dL_law_864 rfl <| ru_iconst dL_law_866 kc_i_1 <| ru_iadd dL_law_867 <| ?_
        rcases ab_iff h with ⟨hc, h⟩ | ⟨hc, h⟩
        · cases h
        refine ru_sld hc dL_law_868 ?_
        refine ru_aload_n (i := 3) dL_law_869 rfl rfl <| ?_
        obtain ⟨q70, hq70, h⟩ := Option.bind_eq_some_iff.mp h
        refine ru_callSH (tm_L_hostOf hl0 (by omega) hq70) dL_law_870 rfl pm_L_176 mf_L_hostOf rfl rfl (Nat.le_of_ble_eq_true rfl) ?_
        refine ru_istore dL_law_873 (by decide) <| ru_aload_n (i := 2) dL_law_875 rfl rfl <| ru_aload_n (i := 0) dL_law_876 rfl rfl <| ru_iload dL_law_877 rfl <| ru_iconst dL_law_879 kc_i_1 <| ru_iadd dL_law_880 <| ?_
        rcases ab_iff h with ⟨hc, h⟩ | ⟨hc, h⟩
        · cases h
        refine ru_sld hc dL_law_881 ?_
        obtain ⟨_, hrc, h⟩ := Option.bind_eq_some_iff.mp h
        obtain ⟨q72, hq72, h⟩ := Option.bind_eq_some_iff.mp h
        refine ru_callV (tm_X12_hostOf hl0 (by omega) hq72) dL_law_882 rfl pm_L_178 mf_X12_hostOf (ab_rcv_of hrc rfl) rfl rfl (Nat.le_of_ble_eq_true rfl) ?_
        refine ru_istore dL_law_885 (by decide) <| ru_aload_n (i := 2) dL_law_887 rfl rfl <| ?_
        obtain ⟨_, hrc, h⟩ := Option.bind_eq_some_iff.mp h
        obtain ⟨q73, hq73, h⟩ := Option.bind_eq_some_iff.mp h
        refine ru_callV (tm_X12_thrown hl0 (by omega) hq73) dL_law_888 rfl pm_L_129 mf_X12_thrown (ab_rcv_of hrc rfl) rfl rfl (Nat.le_of_ble_eq_true rfl) ?_
        refine ru_iload dL_law_891 rfl <| ?_
        refine ru_icmp_eq (tgt := 898) dL_law_893 (by decide) (fun hc => ?_) (fun hc => ?_)
        · rw [if_pos hc] at h
          refine ru_iload dL_law_898 rfl <| ?_
          refine ru_if_ne (tgt := 915) dL_law_900 (by decide) (fun hc => ?_) (fun hc => ?_)
          · rw [if_neg hc] at h
            exact ru_pick [0, 1, 2, 3, 4] rfl (tbb_L_law_915 hl0 hd _ ih _ _ _ _ _ _ h)
          · rw [if_pos hc] at h
            refine ru_aload_n (i := 3) dL_law_903 rfl rfl <| ru_iconst dL_law_904 kc_i_0 <| ?_
            refine ru_laload h dL_law_905 ?_
            intro v74 h
            refine ru_iload dL_law_906 rfl <| ru_i2l dL_law_908 <| ru_lcmp dL_law_909 <| ?_
            refine ru_if_eq (tgt := 915) dL_law_910 (by decide) (fun hc => ?_) (fun hc => ?_)
            · rw [if_pos hc] at h
              exact ru_pick [0, 1, 2, 3, 4] rfl (tbb_L_law_915 hl0 hd _ ih _ _ _ _ _ _ h)
            · rw [if_neg hc] at h
              refine ru_iconst dL_law_913 kc_i_0 <| ?_
              cases h
              exact ru_ret (v := some (.int _)) ⟨_, rfl, ab_nz0, dL_law_914⟩
        · rw [if_neg hc] at h
          refine ru_iconst dL_law_896 kc_i_0 <| ?_
          cases h
          exact ru_ret (v := some (.int _)) ⟨_, rfl, ab_nz0, dL_law_897⟩
      rcases ab_iff h with ⟨hc, h⟩ | ⟨hc15, h⟩
      · rw [hc]
        refine ru_tableIn (off := 878) (tgt := 918) dL_law_40 (by decide) (by decide) (by decide) (by decide) ?_
        refine ru_aload_n (i := 1) dL_law_918 rfl rfl <| ru_aload_n (i := 0) dL_law_919 rfl rfl <| ru_iload dL_law_920 rfl <| ru_iconst dL_law_922 kc_i_1 <| ru_iadd dL_law_923 <| ?_
        rcases ab_iff h with ⟨hc, h⟩ | ⟨hc, h⟩
        · cases h
        refine ru_sld hc dL_law_924 ?_
        refine ru_aload_n (i := 3) dL_law_925 rfl rfl <| ?_
        obtain ⟨q76, hq76, h⟩ := Option.bind_eq_some_iff.mp h
        refine ru_callSH (tm_L_bidOf hl0 (by omega) hq76) dL_law_926 rfl pm_L_179 mf_L_bidOf rfl rfl (Nat.le_of_ble_eq_true rfl) ?_
        refine ru_istore dL_law_929 (by decide) <| ru_aload_n (i := 2) dL_law_931 rfl rfl <| ru_aload_n (i := 0) dL_law_932 rfl rfl <| ru_iload dL_law_933 rfl <| ru_iconst dL_law_935 kc_i_1 <| ru_iadd dL_law_936 <| ?_
        rcases ab_iff h with ⟨hc, h⟩ | ⟨hc, h⟩
        · cases h
        refine ru_sld hc dL_law_937 ?_
        obtain ⟨_, hrc, h⟩ := Option.bind_eq_some_iff.mp h
        obtain ⟨q78, hq78, h⟩ := Option.bind_eq_some_iff.mp h
        refine ru_callV (tm_X12_bidOf hl0 (by omega) hq78) dL_law_938 rfl pm_L_181 mf_X12_bidOf (ab_rcv_of hrc rfl) rfl rfl (Nat.le_of_ble_eq_true rfl) ?_
        refine ru_istore dL_law_941 (by decide) <| ru_aload_n (i := 2) dL_law_943 rfl rfl <| ?_
        obtain ⟨_, hrc, h⟩ := Option.bind_eq_some_iff.mp h
        obtain ⟨q79, hq79, h⟩ := Option.bind_eq_some_iff.mp h
        refine ru_callV (tm_X12_thrown hl0 (by omega) hq79) dL_law_944 rfl pm_L_129 mf_X12_thrown (ab_rcv_of hrc rfl) rfl rfl (Nat.le_of_ble_eq_true rfl) ?_
        refine ru_iload dL_law_947 rfl <| ?_
        refine ru_icmp_eq (tgt := 954) dL_law_949 (by decide) (fun hc => ?_) (fun hc => ?_)
        · rw [if_pos hc] at h
          refine ru_iload dL_law_954 rfl <| ?_
          refine ru_if_ne (tgt := 971) dL_law_956 (by decide) (fun hc => ?_) (fun hc => ?_)
          · rw [if_neg hc] at h
            exact ru_pick [0, 1, 2, 3, 4] rfl (tbb_L_law_971 hl0 hd _ ih _ _ _ _ _ _ h)
          · rw [if_pos hc] at h
            refine ru_aload_n (i := 3) dL_law_959 rfl rfl <| ru_iconst dL_law_960 kc_i_0 <| ?_
            refine ru_laload h dL_law_961 ?_
            intro v80 h
            refine ru_iload dL_law_962 rfl <| ru_i2l dL_law_964 <| ru_lcmp dL_law_965 <| ?_
            refine ru_if_eq (tgt := 971) dL_law_966 (by decide) (fun hc => ?_) (fun hc => ?_)
            · rw [if_pos hc] at h
              exact ru_pick [0, 1, 2, 3, 4] rfl (tbb_L_law_971 hl0 hd _ ih _ _ _ _ _ _ h)
            · rw [if_neg hc] at h
              refine ru_iconst dL_law_969 kc_i_0 <| ?_
              cases h
              exact ru_ret (v := some (.int _)) ⟨_, rfl, ab_nz0, dL_law_970⟩
        · rw [if_neg hc] at h
          refine ru_iconst dL_law_952 kc_i_0 <| ?_
          cases h
          exact ru_ret (v := some (.int _)) ⟨_, rfl, ab_nz0, dL_law_953⟩
      rcases ab_iff h with ⟨hc, h⟩ | ⟨hc16, h⟩
      · rw [hc]
        refine ru_tableIn (off := 934) (tgt := 974) dL_law_40 (by decide) (by decide) (by decide) (by decide) ?_
        refine ru_aload_n (i := 1) dL_law_974 rfl rfl <| ru_aload_n (i := 0) dL_law_975 rfl rfl <| ru_iload dL_law_976 rfl <| ru_iconst dL_law_978 kc_i_1 <| ru_iadd dL_law_979 <| ?_
        rcases ab_iff h with ⟨hc, h⟩ | ⟨hc, h⟩
        · cases h
        refine ru_sld hc dL_law_980 ?_
        refine ru_aload_n (i := 3) dL_law_981 rfl rfl <| ?_
        obtain ⟨q82, hq82, h⟩ := Option.bind_eq_some_iff.mp h
        refine ru_callSH (tm_L_noticeOf hl0 (by omega) hq82) dL_law_982 rfl pm_L_182 mf_L_noticeOf rfl rfl (Nat.le_of_ble_eq_true rfl) ?_
        refine ru_istore dL_law_985 (by decide) <| ru_aload_n (i := 2) dL_law_987 rfl rfl <| ru_aload_n (i := 0) dL_law_988 rfl rfl <| ru_iload dL_law_989 rfl <| ru_iconst dL_law_991 kc_i_1 <| ru_iadd dL_law_992 <| ?_
        rcases ab_iff h with ⟨hc, h⟩ | ⟨hc, h⟩
        · cases h
        refine ru_sld hc dL_law_993 ?_
        obtain ⟨_, hrc, h⟩ := Option.bind_eq_some_iff.mp h
        obtain ⟨q84, hq84, h⟩ := Option.bind_eq_some_iff.mp h
        refine ru_callV (tm_X12_noticeOf hl0 (by omega) hq84) dL_law_994 rfl pm_L_184 mf_X12_noticeOf (ab_rcv_of hrc rfl) rfl rfl (Nat.le_of_ble_eq_true rfl) ?_
        refine ru_istore dL_law_997 (by decide) <| ru_aload_n (i := 2) dL_law_999 rfl rfl <| ?_
        obtain ⟨_, hrc, h⟩ := Option.bind_eq_some_iff.mp h
        obtain ⟨q85, hq85, h⟩ := Option.bind_eq_some_iff.mp h
        refine ru_callV (tm_X12_thrown hl0 (by omega) hq85) dL_law_1000 rfl pm_L_129 mf_X12_thrown (ab_rcv_of hrc rfl) rfl rfl (Nat.le_of_ble_eq_true rfl) ?_
        refine ru_iload dL_law_1003 rfl <| ?_
        refine ru_icmp_eq (tgt := 1010) dL_law_1005 (by decide) (fun hc => ?_) (fun hc => ?_)
        · rw [if_pos hc] at h
          refine ru_iload dL_law_1010 rfl <| ?_
          refine ru_if_ne (tgt := 1027) dL_law_1012 (by decide) (fun hc => ?_) (fun hc => ?_)
          · rw [if_neg hc] at h
            exact ru_pick [0, 1, 2, 3, 4] rfl (tbb_L_law_1027 hl0 hd _ ih _ _ _ _ _ _ h)
          · rw [if_pos hc] at h
            refine ru_aload_n (i := 3) dL_law_1015 rfl rfl <| ru_iconst dL_law_1016 kc_i_0 <| ?_
            refine ru_laload h dL_law_1017 ?_
            intro v86 h
            refine ru_iload dL_law_1018 rfl <| ru_i2l dL_law_1020 <| ru_lcmp dL_law_1021 <| ?_
            refine ru_if_eq (tgt := 1027) dL_law_1022 (by decide) (fun hc => ?_) (fun hc => ?_)
            · rw [if_pos hc] at h
              exact ru_pick [0, 1, 2, 3, 4] rfl (tbb_L_law_1027 hl0 hd _ ih _ _ _ _ _ _ h)
            · rw [if_neg hc] at h
              refine ru_iconst dL_law_1025 kc_i_0 <| ?_
              cases h
              exact ru_ret (v := some (.int _)) ⟨_, rfl, ab_nz0, dL_law_1026⟩
        · rw [if_neg hc] at h
          refine ru_iconst dL_law_1008 kc_i_0 <| ?_
          cases h
          exact ru_ret (v := some (.int _)) ⟨_, rfl, ab_nz0, dL_law_1009⟩
      rcases ab_iff h with ⟨hc, h⟩ | ⟨hc17, h⟩
      · rw [hc]
        refine ru_tableIn (off := 990) (tgt := 1030) dL_law_40 (by decide) (by decide) (by decide) (by decide) ?_
        refine ru_aload_n (i := 1) dL_law_1030 rfl rfl <| ?_
        obtain ⟨_, hrc, h⟩ := Option.bind_eq_some_iff.mp h
        obtain ⟨q87, hq87, h⟩ := Option.bind_eq_some_iff.mp h
        refine ru_callV (tm_X11_waiting hl0 (by omega) hq87) dL_law_1031 rfl pm_L_185 mf_X11_waiting (ab_rcv_of hrc rfl) rfl rfl (Nat.le_of_ble_eq_true rfl) ?_
        refine ru_aload_n (i := 2) dL_law_1034 rfl rfl <| ?_
        obtain ⟨_, hrc, h⟩ := Option.bind_eq_some_iff.mp h
        obtain ⟨q88, hq88, h⟩ := Option.bind_eq_some_iff.mp h
        refine ru_callV (tm_X12_waiting hl0 (by omega) hq88) dL_law_1035 rfl pm_L_188 mf_X12_waiting (ab_rcv_of hrc rfl) rfl rfl (Nat.le_of_ble_eq_true rfl) ?_
        refine ru_icmp_eq (tgt := 2330) dL_law_1038 (by decide) (fun hc => ?_) (fun hc => ?_)
        · rw [if_pos hc] at h
          exact ru_pick [0, 1, 2, 3, 4] rfl (tbb_L_law_2330 hl0 hd _ ih _ _ _ _ _ _ h)
        · rw [if_neg hc] at h
          refine ru_iconst dL_law_1041 kc_i_0 <| ?_
          cases h
          exact ru_ret (v := some (.int _)) ⟨_, rfl, ab_nz0, dL_law_1042⟩
      rcases ab_iff h with ⟨hc, h⟩ | ⟨hc18, h⟩
      · rw [hc]
        refine ru_tableIn (off := 1003) (tgt := 1043) dL_law_40 (by decide) (by decide) (by decide) (by decide) ?_
        refine ru_aload_n (i := 1) dL_law_1043 rfl rfl <| ru_aload_n (i := 0) dL_law_1044 rfl rfl <| ru_iload dL_law_1045 rfl <| ru_iconst dL_law_1047 kc_i_1 <| ru_iadd dL_law_1048 <| ?_
        rcases ab_iff h with ⟨hc, h⟩ | ⟨hc, h⟩
        · cases h
        refine ru_sld hc dL_law_1049 ?_
        obtain ⟨_, hrc, h⟩ := Option.bind_eq_some_iff.mp h
        obtain ⟨q90, hq90, h⟩ := Option.bind_eq_some_iff.mp h
        refine ru_callV (tm_X11_waitingBid hl0 (by omega) hq90) dL_law_1050 rfl pm_L_189 mf_X11_waitingBid (ab_rcv_of hrc rfl) rfl rfl (Nat.le_of_ble_eq_true rfl) ?_
        refine ru_aload_n (i := 2) dL_law_1053 rfl rfl <| ru_aload_n (i := 0) dL_law_1054 rfl rfl <| ru_iload dL_law_1055 rfl <| ru_iconst dL_law_1057 kc_i_1 <| ru_iadd dL_law_1058 <| ?_
        rcases ab_iff h with ⟨hc, h⟩ | ⟨hc, h⟩
        · cases h
        refine ru_sld hc dL_law_1059 ?_
        obtain ⟨_, hrc, h⟩ := Option.bind_eq_some_iff.mp h
        obtain ⟨q92, hq92, h⟩ := Option.bind_eq_some_iff.mp h
        refine ru_callV (tm_X12_waitingBid hl0 (by omega) hq92) dL_law_1060 rfl pm_L_192 mf_X12_waitingBid (ab_rcv_of hrc rfl) rfl rfl (Nat.le_of_ble_eq_true rfl) ?_
        refine ru_icmp_eq (tgt := 2330) dL_law_1063 (by decide) (fun hc => ?_) (fun hc => ?_)
        · rw [if_pos hc] at h
          exact ru_pick [0, 1, 2, 3, 4] rfl (tbb_L_law_2330 hl0 hd _ ih _ _ _ _ _ _ h)
        · rw [if_neg hc] at h
          refine ru_iconst dL_law_1066 kc_i_0 <| ?_
          cases h
          exact ru_ret (v := some (.int _)) ⟨_, rfl, ab_nz0, dL_law_1067⟩
      rcases ab_iff h with ⟨hc, h⟩ | ⟨hc19, h⟩
      · rw [hc]
        refine ru_tableIn (off := 1028) (tgt := 1068) dL_law_40 (by decide) (by decide) (by decide) (by decide) ?_
        refine ru_aload_n (i := 1) dL_law_1068 rfl rfl <| ru_aload_n (i := 0) dL_law_1069 rfl rfl <| ru_iload dL_law_1070 rfl <| ru_iconst dL_law_1072 kc_i_1 <| ru_iadd dL_law_1073 <| ?_
        rcases ab_iff h with ⟨hc, h⟩ | ⟨hc, h⟩
        · cases h
        refine ru_sld hc dL_law_1074 ?_
        refine ru_aload_n (i := 3) dL_law_1075 rfl rfl <| ?_
        obtain ⟨q94, hq94, h⟩ := Option.bind_eq_some_iff.mp h
        refine ru_callSH (tm_L_spent hl0 (by omega) hq94) dL_law_1076 rfl pm_L_193 mf_L_spent rfl rfl (Nat.le_of_ble_eq_true rfl) ?_
        refine ru_istore dL_law_1079 (by decide) <| ru_aload_n (i := 2) dL_law_1081 rfl rfl <| ru_aload_n (i := 0) dL_law_1082 rfl rfl <| ru_iload dL_law_1083 rfl <| ru_iconst dL_law_1085 kc_i_1 <| ru_iadd dL_law_1086 <| ?_
        rcases ab_iff h with ⟨hc, h⟩ | ⟨hc, h⟩
        · cases h
        refine ru_sld hc dL_law_1087 ?_
        obtain ⟨_, hrc, h⟩ := Option.bind_eq_some_iff.mp h
        obtain ⟨q96, hq96, h⟩ := Option.bind_eq_some_iff.mp h
        refine ru_callV (tm_X12_spent hl0 (by omega) hq96) dL_law_1088 rfl pm_L_195 mf_X12_spent (ab_rcv_of hrc rfl) rfl rfl (Nat.le_of_ble_eq_true rfl) ?_
        refine ru_lstore dL_law_1091 (by decide) <| ru_aload_n (i := 2) dL_law_1093 rfl rfl <| ?_
        obtain ⟨_, hrc, h⟩ := Option.bind_eq_some_iff.mp h
        obtain ⟨q97, hq97, h⟩ := Option.bind_eq_some_iff.mp h
        refine ru_callV (tm_X12_thrown hl0 (by omega) hq97) dL_law_1094 rfl pm_L_129 mf_X12_thrown (ab_rcv_of hrc rfl) rfl rfl (Nat.le_of_ble_eq_true rfl) ?_
        refine ru_iload dL_law_1097 rfl <| ?_
        refine ru_icmp_eq (tgt := 1104) dL_law_1099 (by decide) (fun hc => ?_) (fun hc => ?_)
        · rw [if_pos hc] at h
          refine ru_iload dL_law_1104 rfl <| ?_
          refine ru_if_ne (tgt := 1120) dL_law_1106 (by decide) (fun hc => ?_) (fun hc => ?_)
          · rw [if_neg hc] at h
            exact ru_pick [0, 1, 2, 3, 4] rfl (tbb_L_law_1120 hl0 hd _ ih _ _ _ _ _ _ h)
          · rw [if_pos hc] at h
            refine ru_aload_n (i := 3) dL_law_1109 rfl rfl <| ru_iconst dL_law_1110 kc_i_0 <| ?_
            refine ru_laload h dL_law_1111 ?_
            intro v98 h
            refine ru_lload dL_law_1112 rfl <| ru_lcmp dL_law_1114 <| ?_
            refine ru_if_eq (tgt := 1120) dL_law_1115 (by decide) (fun hc => ?_) (fun hc => ?_)
            · rw [if_pos hc] at h
              exact ru_pick [0, 1, 2, 3, 4] rfl (tbb_L_law_1120 hl0 hd _ ih _ _ _ _ _ _ h)
            · rw [if_neg hc] at h
              refine ru_iconst dL_law_1118 kc_i_0 <| ?_
              cases h
              exact ru_ret (v := some (.int _)) ⟨_, rfl, ab_nz0, dL_law_1119⟩
        · rw [if_neg hc] at h
          refine ru_iconst dL_law_1102 kc_i_0 <| ?_
          cases h
          exact ru_ret (v := some (.int _)) ⟨_, rfl, ab_nz0, dL_law_1103⟩
      rcases ab_iff h with ⟨hc, h⟩ | ⟨hc20, h⟩
      · rw [hc]
        refine ru_tableIn (off := 1083) (tgt := 1123) dL_law_40 (by decide) (by decide) (by decide) (by decide) ?_
        refine ru_aload_n (i := 1) dL_law_1123 rfl rfl <| ru_aload_n (i := 0) dL_law_1124 rfl rfl <| ru_iload dL_law_1125 rfl <| ru_iconst dL_law_1127 kc_i_1 <| ru_iadd dL_law_1128 <| ?_
        rcases ab_iff h with ⟨hc, h⟩ | ⟨hc, h⟩
        · cases h
        refine ru_sld hc dL_law_1129 ?_
        refine ru_aload_n (i := 3) dL_law_1130 rfl rfl <| ?_
        obtain ⟨q100, hq100, h⟩ := Option.bind_eq_some_iff.mp h
        refine ru_callSH (tm_L_hourlyBill hl0 (by omega) hq100) dL_law_1131 rfl pm_L_196 mf_L_hourlyBill rfl rfl (Nat.le_of_ble_eq_true rfl) ?_
        refine ru_istore dL_law_1134 (by decide) <| ru_aload_n (i := 2) dL_law_1136 rfl rfl <| ru_aload_n (i := 0) dL_law_1137 rfl rfl <| ru_iload dL_law_1138 rfl <| ru_iconst dL_law_1140 kc_i_1 <| ru_iadd dL_law_1141 <| ?_
        rcases ab_iff h with ⟨hc, h⟩ | ⟨hc, h⟩
        · cases h
        refine ru_sld hc dL_law_1142 ?_
        obtain ⟨_, hrc, h⟩ := Option.bind_eq_some_iff.mp h
        obtain ⟨q102, hq102, h⟩ := Option.bind_eq_some_iff.mp h
        refine ru_callV (tm_X12_hourlyBill hl0 (by omega) hq102) dL_law_1143 rfl pm_L_198 mf_X12_hourlyBill (ab_rcv_of hrc rfl) rfl rfl (Nat.le_of_ble_eq_true rfl) ?_
        refine ru_istore dL_law_1146 (by decide) <| ru_aload_n (i := 2) dL_law_1148 rfl rfl <| ?_
        obtain ⟨_, hrc, h⟩ := Option.bind_eq_some_iff.mp h
        obtain ⟨q103, hq103, h⟩ := Option.bind_eq_some_iff.mp h
        refine ru_callV (tm_X12_thrown hl0 (by omega) hq103) dL_law_1149 rfl pm_L_129 mf_X12_thrown (ab_rcv_of hrc rfl) rfl rfl (Nat.le_of_ble_eq_true rfl) ?_
        refine ru_iload dL_law_1152 rfl <| ?_
        refine ru_icmp_eq (tgt := 1159) dL_law_1154 (by decide) (fun hc => ?_) (fun hc => ?_)
        · rw [if_pos hc] at h
          refine ru_iload dL_law_1159 rfl <| ?_
          refine ru_if_ne (tgt := 1176) dL_law_1161 (by decide) (fun hc => ?_) (fun hc => ?_)
          · rw [if_neg hc] at h
            exact ru_pick [0, 1, 2, 3, 4] rfl (tbb_L_law_1176 hl0 hd _ ih _ _ _ _ _ _ h)
          · rw [if_pos hc] at h
            refine ru_aload_n (i := 3) dL_law_1164 rfl rfl <| ru_iconst dL_law_1165 kc_i_0 <| ?_
            refine ru_laload h dL_law_1166 ?_
            intro v104 h
            refine ru_iload dL_law_1167 rfl <| ru_i2l dL_law_1169 <| ru_lcmp dL_law_1170 <| ?_
            refine ru_if_eq (tgt := 1176) dL_law_1171 (by decide) (fun hc => ?_) (fun hc => ?_)
            · rw [if_pos hc] at h
              exact ru_pick [0, 1, 2, 3, 4] rfl (tbb_L_law_1176 hl0 hd _ ih _ _ _ _ _ _ h)
            · rw [if_neg hc] at h
              refine ru_iconst dL_law_1174 kc_i_0 <| ?_
              cases h
              exact ru_ret (v := some (.int _)) ⟨_, rfl, ab_nz0, dL_law_1175⟩
        · rw [if_neg hc] at h
          refine ru_iconst dL_law_1157 kc_i_0 <| ?_
          cases h
          exact ru_ret (v := some (.int _)) ⟨_, rfl, ab_nz0, dL_law_1158⟩
      rcases ab_iff h with ⟨hc, h⟩ | ⟨hc21, h⟩
      · rw [hc]
        refine ru_tableIn (off := 1139) (tgt := 1179) dL_law_40 (by decide) (by decide) (by decide) (by decide) ?_
        refine ru_aload_n (i := 1) dL_law_1179 rfl rfl <| ru_aload_n (i := 0) dL_law_1180 rfl rfl <| ru_iload dL_law_1181 rfl <| ru_iconst dL_law_1183 kc_i_1 <| ru_iadd dL_law_1184 <| ?_
        rcases ab_iff h with ⟨hc, h⟩ | ⟨hc, h⟩
        · cases h
        refine ru_sld hc dL_law_1185 ?_
        refine ru_aload_n (i := 0) dL_law_1186 rfl rfl <| ru_iload dL_law_1187 rfl <| ru_iconst dL_law_1189 kc_i_2 <| ru_iadd dL_law_1190 <| ?_
        rcases ab_iff h with ⟨hc, h⟩ | ⟨hc, h⟩
        · cases h
        refine ru_sld hc dL_law_1191 ?_
        refine ru_aload_n (i := 3) dL_law_1192 rfl rfl <| ?_
        obtain ⟨q107, hq107, h⟩ := Option.bind_eq_some_iff.mp h
        refine ru_callSH (tm_L_covered hl0 (by omega) hq107) dL_law_1193 rfl pm_L_199 mf_L_covered rfl rfl (Nat.le_of_ble_eq_true rfl) ?_
        refine ru_istore dL_law_1196 (by decide) <| ru_aload_n (i := 2) dL_law_1198 rfl rfl <| ru_aload_n (i := 0) dL_law_1199 rfl rfl <| ru_iload dL_law_1200 rfl <| ru_iconst dL_law_1202 kc_i_1 <| ru_iadd dL_law_1203 <| ?_
        rcases ab_iff h with ⟨hc, h⟩ | ⟨hc, h⟩
        · cases h
        refine ru_sld hc dL_law_1204 ?_
        refine ru_aload_n (i := 0) dL_law_1205 rfl rfl <| ru_iload dL_law_1206 rfl <| ru_iconst dL_law_1208 kc_i_2 <| ru_iadd dL_law_1209 <| ?_
        rcases ab_iff h with ⟨hc, h⟩ | ⟨hc, h⟩
        · cases h
        refine ru_sld hc dL_law_1210 ?_
        obtain ⟨_, hrc, h⟩ := Option.bind_eq_some_iff.mp h
        obtain ⟨q110, hq110, h⟩ := Option.bind_eq_some_iff.mp h
        refine ru_callV (tm_X12_covered hl0 (by omega) hq110) dL_law_1211 rfl pm_L_202 mf_X12_covered (ab_rcv_of hrc rfl) rfl rfl (Nat.le_of_ble_eq_true rfl) ?_
        refine ru_istore dL_law_1214 (by decide) <| ru_aload_n (i := 2) dL_law_1216 rfl rfl <| ?_
        obtain ⟨_, hrc, h⟩ := Option.bind_eq_some_iff.mp h
        obtain ⟨q111, hq111, h⟩ := Option.bind_eq_some_iff.mp h
        refine ru_callV (tm_X12_thrown hl0 (by omega) hq111) dL_law_1217 rfl pm_L_129 mf_X12_thrown (ab_rcv_of hrc rfl) rfl rfl (Nat.le_of_ble_eq_true rfl) ?_
        refine ru_iload dL_law_1220 rfl <| ?_
        refine ru_icmp_eq (tgt := 1227) dL_law_1222 (by decide) (fun hc => ?_) (fun hc => ?_)
        · rw [if_pos hc] at h
          refine ru_iload dL_law_1227 rfl <| ?_
          refine ru_if_ne (tgt := 1244) dL_law_1229 (by decide) (fun hc => ?_) (fun hc => ?_)
          · rw [if_neg hc] at h
            exact ru_pick [0, 1, 2, 3, 4] rfl (tbb_L_law_1244 hl0 hd _ ih _ _ _ _ _ _ h)
          · rw [if_pos hc] at h
            refine ru_aload_n (i := 3) dL_law_1232 rfl rfl <| ru_iconst dL_law_1233 kc_i_0 <| ?_
            refine ru_laload h dL_law_1234 ?_
            intro v112 h
            refine ru_iload dL_law_1235 rfl <| ru_i2l dL_law_1237 <| ru_lcmp dL_law_1238 <| ?_
            refine ru_if_eq (tgt := 1244) dL_law_1239 (by decide) (fun hc => ?_) (fun hc => ?_)
            · rw [if_pos hc] at h
              exact ru_pick [0, 1, 2, 3, 4] rfl (tbb_L_law_1244 hl0 hd _ ih _ _ _ _ _ _ h)
            · rw [if_neg hc] at h
              refine ru_iconst dL_law_1242 kc_i_0 <| ?_
              cases h
              exact ru_ret (v := some (.int _)) ⟨_, rfl, ab_nz0, dL_law_1243⟩
        · rw [if_neg hc] at h
          refine ru_iconst dL_law_1225 kc_i_0 <| ?_
          cases h
          exact ru_ret (v := some (.int _)) ⟨_, rfl, ab_nz0, dL_law_1226⟩
      rcases ab_iff h with ⟨hc, h⟩ | ⟨hc22, h⟩
      · rw [hc]
        refine ru_tableIn (off := 1207) (tgt := 1247) dL_law_40 (by decide) (by decide) (by decide) (by decide) ?_
        refine ru_aload_n (i := 1) dL_law_1247 rfl rfl <| ru_aload_n (i := 0) dL_law_1248 rfl rfl <| ru_iload dL_law_1249 rfl <| ru_iconst dL_law_1251 kc_i_1 <| ru_iadd dL_law_1252 <| ?_
        rcases ab_iff h with ⟨hc, h⟩ | ⟨hc, h⟩
        · cases h
        refine ru_sld hc dL_law_1253 ?_
        refine ru_aload_n (i := 3) dL_law_1254 rfl rfl <| ?_
        obtain ⟨q114, hq114, h⟩ := Option.bind_eq_some_iff.mp h
        refine ru_callSH (tm_L_isOverBudget hl0 (by omega) hq114) dL_law_1255 rfl pm_L_203 mf_L_isOverBudget rfl rfl (Nat.le_of_ble_eq_true rfl) ?_
        refine ru_istore dL_law_1258 (by decide) <| ru_aload_n (i := 2) dL_law_1260 rfl rfl <| ru_aload_n (i := 0) dL_law_1261 rfl rfl <| ru_iload dL_law_1262 rfl <| ru_iconst dL_law_1264 kc_i_1 <| ru_iadd dL_law_1265 <| ?_
        rcases ab_iff h with ⟨hc, h⟩ | ⟨hc, h⟩
        · cases h
        refine ru_sld hc dL_law_1266 ?_
        obtain ⟨_, hrc, h⟩ := Option.bind_eq_some_iff.mp h
        obtain ⟨q116, hq116, h⟩ := Option.bind_eq_some_iff.mp h
        refine ru_callV (tm_X12_isOverBudget hl0 (by omega) hq116) dL_law_1267 rfl pm_L_205 mf_X12_isOverBudget (ab_rcv_of hrc rfl) rfl rfl (Nat.le_of_ble_eq_true rfl) ?_
        refine ru_istore dL_law_1270 (by decide) <| ru_aload_n (i := 2) dL_law_1272 rfl rfl <| ?_
        obtain ⟨_, hrc, h⟩ := Option.bind_eq_some_iff.mp h
        obtain ⟨q117, hq117, h⟩ := Option.bind_eq_some_iff.mp h
        refine ru_callV (tm_X12_thrown hl0 (by omega) hq117) dL_law_1273 rfl pm_L_129 mf_X12_thrown (ab_rcv_of hrc rfl) rfl rfl (Nat.le_of_ble_eq_true rfl) ?_
        refine ru_iload dL_law_1276 rfl <| ?_
        refine ru_icmp_eq (tgt := 1283) dL_law_1278 (by decide) (fun hc => ?_) (fun hc => ?_)
        · rw [if_pos hc] at h
          refine ru_iload dL_law_1283 rfl <| ?_
          refine ru_if_ne (tgt := 1307) dL_law_1285 (by decide) (fun hc => ?_) (fun hc => ?_)
          · rw [if_neg hc] at h
            exact ru_pick [0, 1, 2, 3, 4] rfl (tbb_L_law_1307 hl0 hd _ ih _ _ _ _ _ _ h)
          · rw [if_pos hc] at h
            refine ru_aload_n (i := 3) dL_law_1288 rfl rfl <| ru_iconst dL_law_1289 kc_i_0 <| ?_
            refine ru_laload h dL_law_1290 ?_
            intro v118 h
            refine ru_iload dL_law_1291 rfl <| ?_
            refine ru_if_eq (tgt := 1300) dL_law_1293 (by decide) (fun hc => ?_) (fun hc => ?_)
            · rw [if_pos hc] at h
              refine ru_lconst dL_law_1300 (v := 0) rfl <| ?_
              exact ru_pick [0, 1, 2, 3, 4] rfl (tbb_L_law_1301 hl0 hd _ ih _ _ _ _ _ _ _ _ h)
            · rw [if_neg hc] at h
              refine ru_lconst dL_law_1296 (v := 1) rfl <| ru_goto (tgt := 1301) dL_law_1297 (by decide) <| ?_
              exact ru_pick [0, 1, 2, 3, 4] rfl (tbb_L_law_1301 hl0 hd _ ih _ _ _ _ _ _ _ _ h)
        · rw [if_neg hc] at h
          refine ru_iconst dL_law_1281 kc_i_0 <| ?_
          cases h
          exact ru_ret (v := some (.int _)) ⟨_, rfl, ab_nz0, dL_law_1282⟩
      rcases ab_iff h with ⟨hc, h⟩ | ⟨hc23, h⟩
      · rw [hc]
        refine ru_tableIn (off := 1270) (tgt := 1310) dL_law_40 (by decide) (by decide) (by decide) (by decide) ?_
        refine ru_aload_n (i := 1) dL_law_1310 rfl rfl <| ru_aload_n (i := 0) dL_law_1311 rfl rfl <| ru_iload dL_law_1312 rfl <| ru_iconst dL_law_1314 kc_i_1 <| ru_iadd dL_law_1315 <| ?_
        rcases ab_iff h with ⟨hc, h⟩ | ⟨hc, h⟩
        · cases h
        refine ru_sld hc dL_law_1316 ?_
        refine ru_aload_n (i := 3) dL_law_1317 rfl rfl <| ?_
        obtain ⟨q120, hq120, h⟩ := Option.bind_eq_some_iff.mp h
        refine ru_callSH (tm_L_pays hl0 (by omega) hq120) dL_law_1318 rfl pm_L_206 mf_L_pays rfl rfl (Nat.le_of_ble_eq_true rfl) ?_
        refine ru_istore dL_law_1321 (by decide) <| ru_aload_n (i := 2) dL_law_1323 rfl rfl <| ru_aload_n (i := 0) dL_law_1324 rfl rfl <| ru_iload dL_law_1325 rfl <| ru_iconst dL_law_1327 kc_i_1 <| ru_iadd dL_law_1328 <| ?_
        rcases ab_iff h with ⟨hc, h⟩ | ⟨hc, h⟩
        · cases h
        refine ru_sld hc dL_law_1329 ?_
        obtain ⟨_, hrc, h⟩ := Option.bind_eq_some_iff.mp h
        obtain ⟨q122, hq122, h⟩ := Option.bind_eq_some_iff.mp h
        refine ru_callV (tm_X12_pays hl0 (by omega) hq122) dL_law_1330 rfl pm_L_208 mf_X12_pays (ab_rcv_of hrc rfl) rfl rfl (Nat.le_of_ble_eq_true rfl) ?_
        refine ru_istore dL_law_1333 (by decide) <| ru_aload_n (i := 2) dL_law_1335 rfl rfl <| ?_
        obtain ⟨_, hrc, h⟩ := Option.bind_eq_some_iff.mp h
        obtain ⟨q123, hq123, h⟩ := Option.bind_eq_some_iff.mp h
        refine ru_callV (tm_X12_thrown hl0 (by omega) hq123) dL_law_1336 rfl pm_L_129 mf_X12_thrown (ab_rcv_of hrc rfl) rfl rfl (Nat.le_of_ble_eq_true rfl) ?_
        refine ru_iload dL_law_1339 rfl <| ?_
        refine ru_icmp_eq (tgt := 1346) dL_law_1341 (by decide) (fun hc => ?_) (fun hc => ?_)
        · rw [if_pos hc] at h
          refine ru_iload dL_law_1346 rfl <| ?_
          refine ru_if_ne (tgt := 1370) dL_law_1348 (by decide) (fun hc => ?_) (fun hc => ?_)
          · rw [if_neg hc] at h
            exact ru_pick [0, 1, 2, 3, 4] rfl (tbb_L_law_1370 hl0 hd _ ih _ _ _ _ _ _ h)
          · rw [if_pos hc] at h
            refine ru_aload_n (i := 3) dL_law_1351 rfl rfl <| ru_iconst dL_law_1352 kc_i_0 <| ?_
            refine ru_laload h dL_law_1353 ?_
            intro v124 h
            refine ru_iload dL_law_1354 rfl <| ?_
            refine ru_if_eq (tgt := 1363) dL_law_1356 (by decide) (fun hc => ?_) (fun hc => ?_)
            · rw [if_pos hc] at h
              refine ru_lconst dL_law_1363 (v := 0) rfl <| ?_
              exact ru_pick [0, 1, 2, 3, 4] rfl (tbb_L_law_1364 hl0 hd _ ih _ _ _ _ _ _ _ _ h)
            · rw [if_neg hc] at h
              refine ru_lconst dL_law_1359 (v := 1) rfl <| ru_goto (tgt := 1364) dL_law_1360 (by decide) <| ?_
              exact ru_pick [0, 1, 2, 3, 4] rfl (tbb_L_law_1364 hl0 hd _ ih _ _ _ _ _ _ _ _ h)
        · rw [if_neg hc] at h
          refine ru_iconst dL_law_1344 kc_i_0 <| ?_
          cases h
          exact ru_ret (v := some (.int _)) ⟨_, rfl, ab_nz0, dL_law_1345⟩
      rcases ab_iff h with ⟨hc, h⟩ | ⟨hc24, h⟩
      · rw [hc]
        refine ru_tableIn (off := 1333) (tgt := 1373) dL_law_40 (by decide) (by decide) (by decide) (by decide) ?_
        refine ru_aload_n (i := 1) dL_law_1373 rfl rfl <| ?_
        obtain ⟨_, hrc, h⟩ := Option.bind_eq_some_iff.mp h
        obtain ⟨q125, hq125, h⟩ := Option.bind_eq_some_iff.mp h
        refine ru_callV (tm_X11_fewestHosts hl0 (by omega) hq125) dL_law_1374 rfl pm_L_209 mf_X11_fewestHosts (ab_rcv_of hrc rfl) rfl rfl (Nat.le_of_ble_eq_true rfl) ?_
        refine ru_aload_n (i := 2) dL_law_1377 rfl rfl <| ?_
        obtain ⟨_, hrc, h⟩ := Option.bind_eq_some_iff.mp h
        obtain ⟨q126, hq126, h⟩ := Option.bind_eq_some_iff.mp h
        refine ru_callV (tm_X12_fewestHosts hl0 (by omega) hq126) dL_law_1378 rfl pm_L_212 mf_X12_fewestHosts (ab_rcv_of hrc rfl) rfl rfl (Nat.le_of_ble_eq_true rfl) ?_
        refine ru_icmp_eq (tgt := 2330) dL_law_1381 (by decide) (fun hc => ?_) (fun hc => ?_)
        · rw [if_pos hc] at h
          exact ru_pick [0, 1, 2, 3, 4] rfl (tbb_L_law_2330 hl0 hd _ ih _ _ _ _ _ _ h)
        · rw [if_neg hc] at h
          refine ru_iconst dL_law_1384 kc_i_0 <| ?_
          cases h
          exact ru_ret (v := some (.int _)) ⟨_, rfl, ab_nz0, dL_law_1385⟩
      rcases ab_iff h with ⟨hc, h⟩ | ⟨hc25, h⟩
      · rw [hc]
        refine ru_tableIn (off := 1346) (tgt := 1386) dL_law_40 (by decide) (by decide) (by decide) (by decide) ?_
        refine ru_aload_n (i := 1) dL_law_1386 rfl rfl <| ru_aload_n (i := 0) dL_law_1387 rfl rfl <| ru_iload dL_law_1388 rfl <| ru_iconst dL_law_1390 kc_i_1 <| ru_iadd dL_law_1391 <| ?_
        rcases ab_iff h with ⟨hc, h⟩ | ⟨hc, h⟩
        · cases h
        refine ru_sld hc dL_law_1392 ?_
        refine ru_aload_n (i := 0) dL_law_1393 rfl rfl <| ru_iload dL_law_1394 rfl <| ru_iconst dL_law_1396 kc_i_2 <| ru_iadd dL_law_1397 <| ?_
        rcases ab_iff h with ⟨hc, h⟩ | ⟨hc, h⟩
        · cases h
        refine ru_sld hc dL_law_1398 ?_
        refine ru_aload_n (i := 3) dL_law_1399 rfl rfl <| ?_
        obtain ⟨q129, hq129, h⟩ := Option.bind_eq_some_iff.mp h
        refine ru_callSH (tm_L_cheapestEviction hl0 (by omega) hq129) dL_law_1400 rfl pm_L_213 mf_L_cheapestEviction rfl rfl (Nat.le_of_ble_eq_true rfl) ?_
        refine ru_istore dL_law_1403 (by decide) <| ru_aload_n (i := 2) dL_law_1405 rfl rfl <| ru_aload_n (i := 0) dL_law_1406 rfl rfl <| ru_iload dL_law_1407 rfl <| ru_iconst dL_law_1409 kc_i_1 <| ru_iadd dL_law_1410 <| ?_
        rcases ab_iff h with ⟨hc, h⟩ | ⟨hc, h⟩
        · cases h
        refine ru_sld hc dL_law_1411 ?_
        refine ru_aload_n (i := 0) dL_law_1412 rfl rfl <| ru_iload dL_law_1413 rfl <| ru_iconst dL_law_1415 kc_i_2 <| ru_iadd dL_law_1416 <| ?_
        rcases ab_iff h with ⟨hc, h⟩ | ⟨hc, h⟩
        · cases h
        refine ru_sld hc dL_law_1417 ?_
        obtain ⟨_, hrc, h⟩ := Option.bind_eq_some_iff.mp h
        obtain ⟨q132, hq132, h⟩ := Option.bind_eq_some_iff.mp h
        refine ru_callV (tm_X12_cheapestEviction hl0 (by omega) hq132) dL_law_1418 rfl pm_L_215 mf_X12_cheapestEviction (ab_rcv_of hrc rfl) rfl rfl (Nat.le_of_ble_eq_true rfl) ?_
        refine ru_istore dL_law_1421 (by decide) <| ru_aload_n (i := 2) dL_law_1423 rfl rfl <| ?_
        obtain ⟨_, hrc, h⟩ := Option.bind_eq_some_iff.mp h
        obtain ⟨q133, hq133, h⟩ := Option.bind_eq_some_iff.mp h
        refine ru_callV (tm_X12_thrown hl0 (by omega) hq133) dL_law_1424 rfl pm_L_129 mf_X12_thrown (ab_rcv_of hrc rfl) rfl rfl (Nat.le_of_ble_eq_true rfl) ?_
        refine ru_iload dL_law_1427 rfl <| ?_
        refine ru_icmp_eq (tgt := 1434) dL_law_1429 (by decide) (fun hc => ?_) (fun hc => ?_)
        · rw [if_pos hc] at h
          refine ru_iload dL_law_1434 rfl <| ?_
          refine ru_if_ne (tgt := 1451) dL_law_1436 (by decide) (fun hc => ?_) (fun hc => ?_)
          · rw [if_neg hc] at h
            exact ru_pick [0, 1, 2, 3, 4] rfl (tbb_L_law_1451 hl0 hd _ ih _ _ _ _ _ _ h)
          · rw [if_pos hc] at h
            refine ru_aload_n (i := 3) dL_law_1439 rfl rfl <| ru_iconst dL_law_1440 kc_i_0 <| ?_
            refine ru_laload h dL_law_1441 ?_
            intro v134 h
            refine ru_iload dL_law_1442 rfl <| ru_i2l dL_law_1444 <| ru_lcmp dL_law_1445 <| ?_
            refine ru_if_eq (tgt := 1451) dL_law_1446 (by decide) (fun hc => ?_) (fun hc => ?_)
            · rw [if_pos hc] at h
              exact ru_pick [0, 1, 2, 3, 4] rfl (tbb_L_law_1451 hl0 hd _ ih _ _ _ _ _ _ h)
            · rw [if_neg hc] at h
              refine ru_iconst dL_law_1449 kc_i_0 <| ?_
              cases h
              exact ru_ret (v := some (.int _)) ⟨_, rfl, ab_nz0, dL_law_1450⟩
        · rw [if_neg hc] at h
          refine ru_iconst dL_law_1432 kc_i_0 <| ?_
          cases h
          exact ru_ret (v := some (.int _)) ⟨_, rfl, ab_nz0, dL_law_1433⟩
      rcases ab_iff h with ⟨hc, h⟩ | ⟨hc26, h⟩
      · rw [hc]
        refine ru_tableIn (off := 1414) (tgt := 1454) dL_law_40 (by decide) (by decide) (by decide) (by decide) ?_
        refine ru_aload_n (i := 1) dL_law_1454 rfl rfl <| ru_aload_n (i := 0) dL_law_1455 rfl rfl <| ru_iload dL_law_1456 rfl <| ru_iconst dL_law_1458 kc_i_1 <| ru_iadd dL_law_1459 <| ?_
        rcases ab_iff h with ⟨hc, h⟩ | ⟨hc, h⟩
        · cases h
        refine ru_sld hc dL_law_1460 ?_
        refine ru_aload_n (i := 3) dL_law_1461 rfl rfl <| ?_
        obtain ⟨q136, hq136, h⟩ := Option.bind_eq_some_iff.mp h
        refine ru_callSH (tm_L_migrationCost hl0 (by omega) hq136) dL_law_1462 rfl pm_L_216 mf_L_migrationCost rfl rfl (Nat.le_of_ble_eq_true rfl) ?_
        refine ru_istore dL_law_1465 (by decide) <| ru_aload_n (i := 2) dL_law_1467 rfl rfl <| ru_aload_n (i := 0) dL_law_1468 rfl rfl <| ru_iload dL_law_1469 rfl <| ru_iconst dL_law_1471 kc_i_1 <| ru_iadd dL_law_1472 <| ?_
        rcases ab_iff h with ⟨hc, h⟩ | ⟨hc, h⟩
        · cases h
        refine ru_sld hc dL_law_1473 ?_
        obtain ⟨_, hrc, h⟩ := Option.bind_eq_some_iff.mp h
        obtain ⟨q138, hq138, h⟩ := Option.bind_eq_some_iff.mp h
        refine ru_callV (tm_X12_migrationCost hl0 (by omega) hq138) dL_law_1474 rfl pm_L_218 mf_X12_migrationCost (ab_rcv_of hrc rfl) rfl rfl (Nat.le_of_ble_eq_true rfl) ?_
        refine ru_istore dL_law_1477 (by decide) <| ru_aload_n (i := 2) dL_law_1479 rfl rfl <| ?_
        obtain ⟨_, hrc, h⟩ := Option.bind_eq_some_iff.mp h
        obtain ⟨q139, hq139, h⟩ := Option.bind_eq_some_iff.mp h
        refine ru_callV (tm_X12_thrown hl0 (by omega) hq139) dL_law_1480 rfl pm_L_129 mf_X12_thrown (ab_rcv_of hrc rfl) rfl rfl (Nat.le_of_ble_eq_true rfl) ?_
        refine ru_iload dL_law_1483 rfl <| ?_
        refine ru_icmp_eq (tgt := 1490) dL_law_1485 (by decide) (fun hc => ?_) (fun hc => ?_)
        · rw [if_pos hc] at h
          refine ru_iload dL_law_1490 rfl <| ?_
          refine ru_if_ne (tgt := 1507) dL_law_1492 (by decide) (fun hc => ?_) (fun hc => ?_)
          · rw [if_neg hc] at h
            exact ru_pick [0, 1, 2, 3, 4] rfl (tbb_L_law_1507 hl0 hd _ ih _ _ _ _ _ _ h)
          · rw [if_pos hc] at h
            refine ru_aload_n (i := 3) dL_law_1495 rfl rfl <| ru_iconst dL_law_1496 kc_i_0 <| ?_
            refine ru_laload h dL_law_1497 ?_
            intro v140 h
            refine ru_iload dL_law_1498 rfl <| ru_i2l dL_law_1500 <| ru_lcmp dL_law_1501 <| ?_
            refine ru_if_eq (tgt := 1507) dL_law_1502 (by decide) (fun hc => ?_) (fun hc => ?_)
            · rw [if_pos hc] at h
              exact ru_pick [0, 1, 2, 3, 4] rfl (tbb_L_law_1507 hl0 hd _ ih _ _ _ _ _ _ h)
            · rw [if_neg hc] at h
              refine ru_iconst dL_law_1505 kc_i_0 <| ?_
              cases h
              exact ru_ret (v := some (.int _)) ⟨_, rfl, ab_nz0, dL_law_1506⟩
        · rw [if_neg hc] at h
          refine ru_iconst dL_law_1488 kc_i_0 <| ?_
          cases h
          exact ru_ret (v := some (.int _)) ⟨_, rfl, ab_nz0, dL_law_1489⟩
      rcases ab_iff h with ⟨hc, h⟩ | ⟨hc27, h⟩
      · rw [hc]
        refine ru_tableIn (off := 1470) (tgt := 1510) dL_law_40 (by decide) (by decide) (by decide) (by decide) ?_
        refine ru_aload_n (i := 1) dL_law_1510 rfl rfl <| ru_aload_n (i := 0) dL_law_1511 rfl rfl <| ru_iload dL_law_1512 rfl <| ru_iconst dL_law_1514 kc_i_1 <| ru_iadd dL_law_1515 <| ?_
        rcases ab_iff h with ⟨hc, h⟩ | ⟨hc, h⟩
        · cases h
        refine ru_sld hc dL_law_1516 ?_
        refine ru_aload_n (i := 0) dL_law_1517 rfl rfl <| ru_iload dL_law_1518 rfl <| ru_iconst dL_law_1520 kc_i_2 <| ru_iadd dL_law_1521 <| ?_
        rcases ab_iff h with ⟨hc, h⟩ | ⟨hc, h⟩
        · cases h
        refine ru_sld hc dL_law_1522 ?_
        refine ru_aload_n (i := 3) dL_law_1523 rfl rfl <| ?_
        obtain ⟨q143, hq143, h⟩ := Option.bind_eq_some_iff.mp h
        refine ru_callSH (tm_L_drainTo hl0 (by omega) hq143) dL_law_1524 rfl pm_L_219 mf_L_drainTo rfl rfl (Nat.le_of_ble_eq_true rfl) ?_
        refine ru_istore dL_law_1527 (by decide) <| ru_aload_n (i := 2) dL_law_1529 rfl rfl <| ru_aload_n (i := 0) dL_law_1530 rfl rfl <| ru_iload dL_law_1531 rfl <| ru_iconst dL_law_1533 kc_i_1 <| ru_iadd dL_law_1534 <| ?_
        rcases ab_iff h with ⟨hc, h⟩ | ⟨hc, h⟩
        · cases h
        refine ru_sld hc dL_law_1535 ?_
        refine ru_aload_n (i := 0) dL_law_1536 rfl rfl <| ru_iload dL_law_1537 rfl <| ru_iconst dL_law_1539 kc_i_2 <| ru_iadd dL_law_1540 <| ?_
        rcases ab_iff h with ⟨hc, h⟩ | ⟨hc, h⟩
        · cases h
        refine ru_sld hc dL_law_1541 ?_
        obtain ⟨_, hrc, h⟩ := Option.bind_eq_some_iff.mp h
        obtain ⟨q146, hq146, h⟩ := Option.bind_eq_some_iff.mp h
        refine ru_callV (tm_X12_drainTo hl0 (by omega) hq146) dL_law_1542 rfl pm_L_221 mf_X12_drainTo (ab_rcv_of hrc rfl) rfl rfl (Nat.le_of_ble_eq_true rfl) ?_
        refine ru_istore dL_law_1545 (by decide) <| ru_aload_n (i := 2) dL_law_1547 rfl rfl <| ?_
        obtain ⟨_, hrc, h⟩ := Option.bind_eq_some_iff.mp h
        obtain ⟨q147, hq147, h⟩ := Option.bind_eq_some_iff.mp h
        refine ru_callV (tm_X12_thrown hl0 (by omega) hq147) dL_law_1548 rfl pm_L_129 mf_X12_thrown (ab_rcv_of hrc rfl) rfl rfl (Nat.le_of_ble_eq_true rfl) ?_
        refine ru_iload dL_law_1551 rfl <| ?_
        refine ru_icmp_eq (tgt := 1558) dL_law_1553 (by decide) (fun hc => ?_) (fun hc => ?_)
        · rw [if_pos hc] at h
          refine ru_iload dL_law_1558 rfl <| ?_
          refine ru_if_ne (tgt := 1575) dL_law_1560 (by decide) (fun hc => ?_) (fun hc => ?_)
          · rw [if_neg hc] at h
            exact ru_pick [0, 1, 2, 3, 4] rfl (tbb_L_law_1575 hl0 hd _ ih _ _ _ _ _ _ h)
          · rw [if_pos hc] at h
            refine ru_aload_n (i := 3) dL_law_1563 rfl rfl <| ru_iconst dL_law_1564 kc_i_0 <| ?_
            refine ru_laload h dL_law_1565 ?_
            intro v148 h
            refine ru_iload dL_law_1566 rfl <| ru_i2l dL_law_1568 <| ru_lcmp dL_law_1569 <| ?_
            refine ru_if_eq (tgt := 1575) dL_law_1570 (by decide) (fun hc => ?_) (fun hc => ?_)
            · rw [if_pos hc] at h
              exact ru_pick [0, 1, 2, 3, 4] rfl (tbb_L_law_1575 hl0 hd _ ih _ _ _ _ _ _ h)
            · rw [if_neg hc] at h
              refine ru_iconst dL_law_1573 kc_i_0 <| ?_
              cases h
              exact ru_ret (v := some (.int _)) ⟨_, rfl, ab_nz0, dL_law_1574⟩
        · rw [if_neg hc] at h
          refine ru_iconst dL_law_1556 kc_i_0 <| ?_
          cases h
          exact ru_ret (v := some (.int _)) ⟨_, rfl, ab_nz0, dL_law_1557⟩
      rcases ab_iff h with ⟨hc, h⟩ | ⟨hc28, h⟩
      · rw [hc]
        refine ru_tableIn (off := 1538) (tgt := 1578) dL_law_40 (by decide) (by decide) (by decide) (by decide) ?_
        refine ru_aload_n (i := 1) dL_law_1578 rfl rfl <| ru_aload_n (i := 0) dL_law_1579 rfl rfl <| ru_iload dL_law_1580 rfl <| ru_iconst dL_law_1582 kc_i_1 <| ru_iadd dL_law_1583 <| ?_
        rcases ab_iff h with ⟨hc, h⟩ | ⟨hc, h⟩
        · cases h
        refine ru_sld hc dL_law_1584 ?_
        refine ru_aload_n (i := 0) dL_law_1585 rfl rfl <| ru_iload dL_law_1586 rfl <| ru_iconst dL_law_1588 kc_i_2 <| ru_iadd dL_law_1589 <| ?_
        rcases ab_iff h with ⟨hc, h⟩ | ⟨hc, h⟩
        · cases h
        refine ru_sld hc dL_law_1590 ?_
        refine ru_aload_n (i := 3) dL_law_1591 rfl rfl <| ?_
        obtain ⟨q151, hq151, h⟩ := Option.bind_eq_some_iff.mp h
        refine ru_callSH (tm_L_priceAfter hl0 (by omega) hq151) dL_law_1592 rfl pm_L_222 mf_L_priceAfter rfl rfl (Nat.le_of_ble_eq_true rfl) ?_
        refine ru_istore dL_law_1595 (by decide) <| ru_aload_n (i := 2) dL_law_1597 rfl rfl <| ru_aload_n (i := 0) dL_law_1598 rfl rfl <| ru_iload dL_law_1599 rfl <| ru_iconst dL_law_1601 kc_i_1 <| ru_iadd dL_law_1602 <| ?_
        rcases ab_iff h with ⟨hc, h⟩ | ⟨hc, h⟩
        · cases h
        refine ru_sld hc dL_law_1603 ?_
        refine ru_aload_n (i := 0) dL_law_1604 rfl rfl <| ru_iload dL_law_1605 rfl <| ru_iconst dL_law_1607 kc_i_2 <| ru_iadd dL_law_1608 <| ?_
        rcases ab_iff h with ⟨hc, h⟩ | ⟨hc, h⟩
        · cases h
        refine ru_sld hc dL_law_1609 ?_
        obtain ⟨_, hrc, h⟩ := Option.bind_eq_some_iff.mp h
        obtain ⟨q154, hq154, h⟩ := Option.bind_eq_some_iff.mp h
        refine ru_callV (tm_X12_priceAfter hl0 (by omega) hq154) dL_law_1610 rfl pm_L_224 mf_X12_priceAfter (ab_rcv_of hrc rfl) rfl rfl (Nat.le_of_ble_eq_true rfl) ?_
        refine ru_istore dL_law_1613 (by decide) <| ru_aload_n (i := 2) dL_law_1615 rfl rfl <| ?_
        obtain ⟨_, hrc, h⟩ := Option.bind_eq_some_iff.mp h
        obtain ⟨q155, hq155, h⟩ := Option.bind_eq_some_iff.mp h
        refine ru_callV (tm_X12_thrown hl0 (by omega) hq155) dL_law_1616 rfl pm_L_129 mf_X12_thrown (ab_rcv_of hrc rfl) rfl rfl (Nat.le_of_ble_eq_true rfl) ?_
        refine ru_iload dL_law_1619 rfl <| ?_
        refine ru_icmp_eq (tgt := 1626) dL_law_1621 (by decide) (fun hc => ?_) (fun hc => ?_)
        · rw [if_pos hc] at h
          refine ru_iload dL_law_1626 rfl <| ?_
          refine ru_if_ne (tgt := 1643) dL_law_1628 (by decide) (fun hc => ?_) (fun hc => ?_)
          · rw [if_neg hc] at h
            exact ru_pick [0, 1, 2, 3, 4] rfl (tbb_L_law_1643 hl0 hd _ ih _ _ _ _ _ _ h)
          · rw [if_pos hc] at h
            refine ru_aload_n (i := 3) dL_law_1631 rfl rfl <| ru_iconst dL_law_1632 kc_i_0 <| ?_
            refine ru_laload h dL_law_1633 ?_
            intro v156 h
            refine ru_iload dL_law_1634 rfl <| ru_i2l dL_law_1636 <| ru_lcmp dL_law_1637 <| ?_
            refine ru_if_eq (tgt := 1643) dL_law_1638 (by decide) (fun hc => ?_) (fun hc => ?_)
            · rw [if_pos hc] at h
              exact ru_pick [0, 1, 2, 3, 4] rfl (tbb_L_law_1643 hl0 hd _ ih _ _ _ _ _ _ h)
            · rw [if_neg hc] at h
              refine ru_iconst dL_law_1641 kc_i_0 <| ?_
              cases h
              exact ru_ret (v := some (.int _)) ⟨_, rfl, ab_nz0, dL_law_1642⟩
        · rw [if_neg hc] at h
          refine ru_iconst dL_law_1624 kc_i_0 <| ?_
          cases h
          exact ru_ret (v := some (.int _)) ⟨_, rfl, ab_nz0, dL_law_1625⟩
      rcases ab_iff h with ⟨hc, h⟩ | ⟨hc29, h⟩
      · rw [hc]
        refine ru_tableIn (off := 1606) (tgt := 1646) dL_law_40 (by decide) (by decide) (by decide) (by decide) ?_
        refine ru_aload_n (i := 1) dL_law_1646 rfl rfl <| ru_aload_n (i := 0) dL_law_1647 rfl rfl <| ru_iload dL_law_1648 rfl <| ru_iconst dL_law_1650 kc_i_1 <| ru_iadd dL_law_1651 <| ?_
        rcases ab_iff h with ⟨hc, h⟩ | ⟨hc, h⟩
        · cases h
        refine ru_sld hc dL_law_1652 ?_
        refine ru_aload_n (i := 3) dL_law_1653 rfl rfl <| ?_
        obtain ⟨q158, hq158, h⟩ := Option.bind_eq_some_iff.mp h
        refine ru_callSH (tm_L_evictedAfter hl0 (by omega) hq158) dL_law_1654 rfl pm_L_225 mf_L_evictedAfter rfl rfl (Nat.le_of_ble_eq_true rfl) ?_
        refine ru_istore dL_law_1657 (by decide) <| ru_aload_n (i := 2) dL_law_1659 rfl rfl <| ru_aload_n (i := 0) dL_law_1660 rfl rfl <| ru_iload dL_law_1661 rfl <| ru_iconst dL_law_1663 kc_i_1 <| ru_iadd dL_law_1664 <| ?_
        rcases ab_iff h with ⟨hc, h⟩ | ⟨hc, h⟩
        · cases h
        refine ru_sld hc dL_law_1665 ?_
        obtain ⟨_, hrc, h⟩ := Option.bind_eq_some_iff.mp h
        obtain ⟨q160, hq160, h⟩ := Option.bind_eq_some_iff.mp h
        refine ru_callV (tm_X12_evictedAfter hl0 (by omega) hq160) dL_law_1666 rfl pm_L_227 mf_X12_evictedAfter (ab_rcv_of hrc rfl) rfl rfl (Nat.le_of_ble_eq_true rfl) ?_
        refine ru_istore dL_law_1669 (by decide) <| ru_aload_n (i := 2) dL_law_1671 rfl rfl <| ?_
        obtain ⟨_, hrc, h⟩ := Option.bind_eq_some_iff.mp h
        obtain ⟨q161, hq161, h⟩ := Option.bind_eq_some_iff.mp h
        refine ru_callV (tm_X12_thrown hl0 (by omega) hq161) dL_law_1672 rfl pm_L_129 mf_X12_thrown (ab_rcv_of hrc rfl) rfl rfl (Nat.le_of_ble_eq_true rfl) ?_
        refine ru_iload dL_law_1675 rfl <| ?_
        refine ru_icmp_eq (tgt := 1682) dL_law_1677 (by decide) (fun hc => ?_) (fun hc => ?_)
        · rw [if_pos hc] at h
          refine ru_iload dL_law_1682 rfl <| ?_
          refine ru_if_ne (tgt := 1699) dL_law_1684 (by decide) (fun hc => ?_) (fun hc => ?_)
          · rw [if_neg hc] at h
            exact ru_pick [0, 1, 2, 3, 4] rfl (tbb_L_law_1699 hl0 hd _ ih _ _ _ _ _ _ h)
          · rw [if_pos hc] at h
            refine ru_aload_n (i := 3) dL_law_1687 rfl rfl <| ru_iconst dL_law_1688 kc_i_0 <| ?_
            refine ru_laload h dL_law_1689 ?_
            intro v162 h
            refine ru_iload dL_law_1690 rfl <| ru_i2l dL_law_1692 <| ru_lcmp dL_law_1693 <| ?_
            refine ru_if_eq (tgt := 1699) dL_law_1694 (by decide) (fun hc => ?_) (fun hc => ?_)
            · rw [if_pos hc] at h
              exact ru_pick [0, 1, 2, 3, 4] rfl (tbb_L_law_1699 hl0 hd _ ih _ _ _ _ _ _ h)
            · rw [if_neg hc] at h
              refine ru_iconst dL_law_1697 kc_i_0 <| ?_
              cases h
              exact ru_ret (v := some (.int _)) ⟨_, rfl, ab_nz0, dL_law_1698⟩
        · rw [if_neg hc] at h
          refine ru_iconst dL_law_1680 kc_i_0 <| ?_
          cases h
          exact ru_ret (v := some (.int _)) ⟨_, rfl, ab_nz0, dL_law_1681⟩
      rcases ab_iff h with ⟨hc, h⟩ | ⟨hc30, h⟩
      · rw [hc]
        refine ru_tableIn (off := 1662) (tgt := 1702) dL_law_40 (by decide) (by decide) (by decide) (by decide) ?_
        refine ru_aload_n (i := 1) dL_law_1702 rfl rfl <| ru_aload_n (i := 0) dL_law_1703 rfl rfl <| ru_iload dL_law_1704 rfl <| ru_iconst dL_law_1706 kc_i_1 <| ru_iadd dL_law_1707 <| ?_
        rcases ab_iff h with ⟨hc, h⟩ | ⟨hc, h⟩
        · cases h
        refine ru_sld hc dL_law_1708 ?_
        refine ru_aload_n (i := 3) dL_law_1709 rfl rfl <| ?_
        obtain ⟨q164, hq164, h⟩ := Option.bind_eq_some_iff.mp h
        refine ru_callSH (tm_L_pass hl0 (by omega) hq164) dL_law_1710 rfl pm_L_228 mf_L_pass rfl rfl (Nat.le_of_ble_eq_true rfl) ?_
        refine ru_istore dL_law_1713 (by decide) <| ru_aload_n (i := 2) dL_law_1715 rfl rfl <| ru_aload_n (i := 0) dL_law_1716 rfl rfl <| ru_iload dL_law_1717 rfl <| ru_iconst dL_law_1719 kc_i_1 <| ru_iadd dL_law_1720 <| ?_
        rcases ab_iff h with ⟨hc, h⟩ | ⟨hc, h⟩
        · cases h
        refine ru_sld hc dL_law_1721 ?_
        obtain ⟨_, hrc, h⟩ := Option.bind_eq_some_iff.mp h
        obtain ⟨q166, hq166, h⟩ := Option.bind_eq_some_iff.mp h
        refine ru_callV (tm_X12_pass hl0 (by omega) hq166) dL_law_1722 rfl pm_L_230 mf_X12_pass (ab_rcv_of hrc rfl) rfl rfl (Nat.le_of_ble_eq_true rfl) ?_
        refine ru_istore dL_law_1725 (by decide) <| ru_aload_n (i := 2) dL_law_1727 rfl rfl <| ?_
        obtain ⟨_, hrc, h⟩ := Option.bind_eq_some_iff.mp h
        obtain ⟨q167, hq167, h⟩ := Option.bind_eq_some_iff.mp h
        refine ru_callV (tm_X12_thrown hl0 (by omega) hq167) dL_law_1728 rfl pm_L_129 mf_X12_thrown (ab_rcv_of hrc rfl) rfl rfl (Nat.le_of_ble_eq_true rfl) ?_
        refine ru_iload dL_law_1731 rfl <| ?_
        refine ru_icmp_eq (tgt := 1738) dL_law_1733 (by decide) (fun hc => ?_) (fun hc => ?_)
        · rw [if_pos hc] at h
          refine ru_iload dL_law_1738 rfl <| ?_
          refine ru_if_ne (tgt := 1755) dL_law_1740 (by decide) (fun hc => ?_) (fun hc => ?_)
          · rw [if_neg hc] at h
            exact ru_pick [0, 1, 2, 3, 4] rfl (tbb_L_law_1755 hl0 hd _ ih _ _ _ _ _ _ h)
          · rw [if_pos hc] at h
            refine ru_aload_n (i := 3) dL_law_1743 rfl rfl <| ru_iconst dL_law_1744 kc_i_0 <| ?_
            refine ru_laload h dL_law_1745 ?_
            intro v168 h
            refine ru_iload dL_law_1746 rfl <| ru_i2l dL_law_1748 <| ru_lcmp dL_law_1749 <| ?_
            refine ru_if_eq (tgt := 1755) dL_law_1750 (by decide) (fun hc => ?_) (fun hc => ?_)
            · rw [if_pos hc] at h
              exact ru_pick [0, 1, 2, 3, 4] rfl (tbb_L_law_1755 hl0 hd _ ih _ _ _ _ _ _ h)
            · rw [if_neg hc] at h
              refine ru_iconst dL_law_1753 kc_i_0 <| ?_
              cases h
              exact ru_ret (v := some (.int _)) ⟨_, rfl, ab_nz0, dL_law_1754⟩
        · rw [if_neg hc] at h
          refine ru_iconst dL_law_1736 kc_i_0 <| ?_
          cases h
          exact ru_ret (v := some (.int _)) ⟨_, rfl, ab_nz0, dL_law_1737⟩
      rcases ab_iff h with ⟨hc, h⟩ | ⟨hc31, h⟩
      · rw [hc]
        refine ru_tableIn (off := 1718) (tgt := 1758) dL_law_40 (by decide) (by decide) (by decide) (by decide) ?_
        refine ru_aload_n (i := 1) dL_law_1758 rfl rfl <| ru_aload_n (i := 0) dL_law_1759 rfl rfl <| ru_iload dL_law_1760 rfl <| ru_iconst dL_law_1762 kc_i_1 <| ru_iadd dL_law_1763 <| ?_
        rcases ab_iff h with ⟨hc, h⟩ | ⟨hc, h⟩
        · cases h
        refine ru_sld hc dL_law_1764 ?_
        refine ru_aload_n (i := 0) dL_law_1765 rfl rfl <| ru_iload dL_law_1766 rfl <| ru_iconst dL_law_1768 kc_i_2 <| ru_iadd dL_law_1769 <| ?_
        rcases ab_iff h with ⟨hc, h⟩ | ⟨hc, h⟩
        · cases h
        refine ru_sld hc dL_law_1770 ?_
        refine ru_aload_n (i := 3) dL_law_1771 rfl rfl <| ?_
        obtain ⟨q171, hq171, h⟩ := Option.bind_eq_some_iff.mp h
        refine ru_callSH (tm_L_launch hl0 (by omega) hq171) dL_law_1772 rfl pm_L_231 mf_L_launch rfl rfl (Nat.le_of_ble_eq_true rfl) ?_
        refine ru_istore dL_law_1775 (by decide) <| ru_aload_n (i := 2) dL_law_1777 rfl rfl <| ru_aload_n (i := 0) dL_law_1778 rfl rfl <| ru_iload dL_law_1779 rfl <| ru_iconst dL_law_1781 kc_i_1 <| ru_iadd dL_law_1782 <| ?_
        rcases ab_iff h with ⟨hc, h⟩ | ⟨hc, h⟩
        · cases h
        refine ru_sld hc dL_law_1783 ?_
        refine ru_aload_n (i := 0) dL_law_1784 rfl rfl <| ru_iload dL_law_1785 rfl <| ru_iconst dL_law_1787 kc_i_2 <| ru_iadd dL_law_1788 <| ?_
        rcases ab_iff h with ⟨hc, h⟩ | ⟨hc, h⟩
        · cases h
        refine ru_sld hc dL_law_1789 ?_
        obtain ⟨_, hrc, h⟩ := Option.bind_eq_some_iff.mp h
        obtain ⟨q174, hq174, h⟩ := Option.bind_eq_some_iff.mp h
        refine ru_callV (tm_X12_launch hl0 (by omega) hq174) dL_law_1790 rfl pm_L_233 mf_X12_launch (ab_rcv_of hrc rfl) rfl rfl (Nat.le_of_ble_eq_true rfl) ?_
        refine ru_istore dL_law_1793 (by decide) <| ru_aload_n (i := 2) dL_law_1795 rfl rfl <| ?_
        obtain ⟨_, hrc, h⟩ := Option.bind_eq_some_iff.mp h
        obtain ⟨q175, hq175, h⟩ := Option.bind_eq_some_iff.mp h
        refine ru_callV (tm_X12_thrown hl0 (by omega) hq175) dL_law_1796 rfl pm_L_129 mf_X12_thrown (ab_rcv_of hrc rfl) rfl rfl (Nat.le_of_ble_eq_true rfl) ?_
        refine ru_iload dL_law_1799 rfl <| ?_
        refine ru_icmp_eq (tgt := 1806) dL_law_1801 (by decide) (fun hc => ?_) (fun hc => ?_)
        · rw [if_pos hc] at h
          refine ru_iload dL_law_1806 rfl <| ?_
          refine ru_if_ne (tgt := 1823) dL_law_1808 (by decide) (fun hc => ?_) (fun hc => ?_)
          · rw [if_neg hc] at h
            exact ru_pick [0, 1, 2, 3, 4] rfl (tbb_L_law_1823 hl0 hd _ ih _ _ _ _ _ _ h)
          · rw [if_pos hc] at h
            refine ru_aload_n (i := 3) dL_law_1811 rfl rfl <| ru_iconst dL_law_1812 kc_i_0 <| ?_
            refine ru_laload h dL_law_1813 ?_
            intro v176 h
            refine ru_iload dL_law_1814 rfl <| ru_i2l dL_law_1816 <| ru_lcmp dL_law_1817 <| ?_
            refine ru_if_eq (tgt := 1823) dL_law_1818 (by decide) (fun hc => ?_) (fun hc => ?_)
            · rw [if_pos hc] at h
              exact ru_pick [0, 1, 2, 3, 4] rfl (tbb_L_law_1823 hl0 hd _ ih _ _ _ _ _ _ h)
            · rw [if_neg hc] at h
              refine ru_iconst dL_law_1821 kc_i_0 <| ?_
              cases h
              exact ru_ret (v := some (.int _)) ⟨_, rfl, ab_nz0, dL_law_1822⟩
        · rw [if_neg hc] at h
          refine ru_iconst dL_law_1804 kc_i_0 <| ?_
          cases h
          exact ru_ret (v := some (.int _)) ⟨_, rfl, ab_nz0, dL_law_1805⟩
      rcases ab_iff h with ⟨hc, h⟩ | ⟨hc32, h⟩
      · rw [hc]
        refine ru_tableIn (off := 1786) (tgt := 1826) dL_law_40 (by decide) (by decide) (by decide) (by decide) ?_
        refine ru_aload_n (i := 1) dL_law_1826 rfl rfl <| ru_aload_n (i := 0) dL_law_1827 rfl rfl <| ru_iload dL_law_1828 rfl <| ru_iconst dL_law_1830 kc_i_1 <| ru_iadd dL_law_1831 <| ?_
        rcases ab_iff h with ⟨hc, h⟩ | ⟨hc, h⟩
        · cases h
        refine ru_sld hc dL_law_1832 ?_
        refine ru_aload_n (i := 0) dL_law_1833 rfl rfl <| ru_iload dL_law_1834 rfl <| ru_iconst dL_law_1836 kc_i_2 <| ru_iadd dL_law_1837 <| ?_
        rcases ab_iff h with ⟨hc, h⟩ | ⟨hc, h⟩
        · cases h
        refine ru_sld hc dL_law_1838 ?_
        refine ru_aload_n (i := 0) dL_law_1839 rfl rfl <| ru_iload dL_law_1840 rfl <| ru_iconst dL_law_1842 kc_i_3 <| ru_iadd dL_law_1843 <| ?_
        rcases ab_iff h with ⟨hc, h⟩ | ⟨hc, h⟩
        · cases h
        refine ru_sld hc dL_law_1844 ?_
        refine ru_aload_n (i := 3) dL_law_1845 rfl rfl <| ?_
        obtain ⟨q180, hq180, h⟩ := Option.bind_eq_some_iff.mp h
        refine ru_callSH (tm_L_bid hl0 (by omega) hq180) dL_law_1846 rfl pm_L_234 mf_L_bid rfl rfl (Nat.le_of_ble_eq_true rfl) ?_
        refine ru_istore dL_law_1849 (by decide) <| ru_aload_n (i := 2) dL_law_1851 rfl rfl <| ru_aload_n (i := 0) dL_law_1852 rfl rfl <| ru_iload dL_law_1853 rfl <| ru_iconst dL_law_1855 kc_i_1 <| ru_iadd dL_law_1856 <| ?_
        rcases ab_iff h with ⟨hc, h⟩ | ⟨hc, h⟩
        · cases h
        refine ru_sld hc dL_law_1857 ?_
        refine ru_aload_n (i := 0) dL_law_1858 rfl rfl <| ru_iload dL_law_1859 rfl <| ru_iconst dL_law_1861 kc_i_2 <| ru_iadd dL_law_1862 <| ?_
        rcases ab_iff h with ⟨hc, h⟩ | ⟨hc, h⟩
        · cases h
        refine ru_sld hc dL_law_1863 ?_
        refine ru_aload_n (i := 0) dL_law_1864 rfl rfl <| ru_iload dL_law_1865 rfl <| ru_iconst dL_law_1867 kc_i_3 <| ru_iadd dL_law_1868 <| ?_
        rcases ab_iff h with ⟨hc, h⟩ | ⟨hc, h⟩
        · cases h
        refine ru_sld hc dL_law_1869 ?_
        obtain ⟨_, hrc, h⟩ := Option.bind_eq_some_iff.mp h
        obtain ⟨q184, hq184, h⟩ := Option.bind_eq_some_iff.mp h
        refine ru_callV (tm_X12_bid hl0 (by omega) hq184) dL_law_1870 rfl pm_L_237 mf_X12_bid (ab_rcv_of hrc rfl) rfl rfl (Nat.le_of_ble_eq_true rfl) ?_
        refine ru_istore dL_law_1873 (by decide) <| ru_aload_n (i := 2) dL_law_1875 rfl rfl <| ?_
        obtain ⟨_, hrc, h⟩ := Option.bind_eq_some_iff.mp h
        obtain ⟨q185, hq185, h⟩ := Option.bind_eq_some_iff.mp h
        refine ru_callV (tm_X12_thrown hl0 (by omega) hq185) dL_law_1876 rfl pm_L_129 mf_X12_thrown (ab_rcv_of hrc rfl) rfl rfl (Nat.le_of_ble_eq_true rfl) ?_
        refine ru_iload dL_law_1879 rfl <| ?_
        refine ru_icmp_eq (tgt := 1886) dL_law_1881 (by decide) (fun hc => ?_) (fun hc => ?_)
        · rw [if_pos hc] at h
          refine ru_iload dL_law_1886 rfl <| ?_
          refine ru_if_ne (tgt := 1903) dL_law_1888 (by decide) (fun hc => ?_) (fun hc => ?_)
          · rw [if_neg hc] at h
            exact ru_pick [0, 1, 2, 3, 4] rfl (tbb_L_law_1903 hl0 hd _ ih _ _ _ _ _ _ h)
          · rw [if_pos hc] at h
            refine ru_aload_n (i := 3) dL_law_1891 rfl rfl <| ru_iconst dL_law_1892 kc_i_0 <| ?_
            refine ru_laload h dL_law_1893 ?_
            intro v186 h
            refine ru_iload dL_law_1894 rfl <| ru_i2l dL_law_1896 <| ru_lcmp dL_law_1897 <| ?_
            refine ru_if_eq (tgt := 1903) dL_law_1898 (by decide) (fun hc => ?_) (fun hc => ?_)
            · rw [if_pos hc] at h
              exact ru_pick [0, 1, 2, 3, 4] rfl (tbb_L_law_1903 hl0 hd _ ih _ _ _ _ _ _ h)
            · rw [if_neg hc] at h
              refine ru_iconst dL_law_1901 kc_i_0 <| ?_
              cases h
              exact ru_ret (v := some (.int _)) ⟨_, rfl, ab_nz0, dL_law_1902⟩
        · rw [if_neg hc] at h
          refine ru_iconst dL_law_1884 kc_i_0 <| ?_
          cases h
          exact ru_ret (v := some (.int _)) ⟨_, rfl, ab_nz0, dL_law_1885⟩
      rcases ab_iff h with ⟨hc, h⟩ | ⟨hc33, h⟩
      · rw [hc]
        refine ru_tableIn (off := 1866) (tgt := 1906) dL_law_40 (by decide) (by decide) (by decide) (by decide) ?_
        refine ru_aload_n (i := 1) dL_law_1906 rfl rfl <| ru_aload_n (i := 0) dL_law_1907 rfl rfl <| ru_iload dL_law_1908 rfl <| ru_iconst dL_law_1910 kc_i_1 <| ru_iadd dL_law_1911 <| ?_
        rcases ab_iff h with ⟨hc, h⟩ | ⟨hc, h⟩
        · cases h
        refine ru_sld hc dL_law_1912 ?_
        refine ru_aload_n (i := 3) dL_law_1913 rfl rfl <| ?_
        obtain ⟨q188, hq188, h⟩ := Option.bind_eq_some_iff.mp h
        refine ru_callSH (tm_L_withdraw hl0 (by omega) hq188) dL_law_1914 rfl pm_L_238 mf_L_withdraw rfl rfl (Nat.le_of_ble_eq_true rfl) ?_
        refine ru_istore dL_law_1917 (by decide) <| ru_aload_n (i := 2) dL_law_1919 rfl rfl <| ru_aload_n (i := 0) dL_law_1920 rfl rfl <| ru_iload dL_law_1921 rfl <| ru_iconst dL_law_1923 kc_i_1 <| ru_iadd dL_law_1924 <| ?_
        rcases ab_iff h with ⟨hc, h⟩ | ⟨hc, h⟩
        · cases h
        refine ru_sld hc dL_law_1925 ?_
        obtain ⟨_, hrc, h⟩ := Option.bind_eq_some_iff.mp h
        obtain ⟨q190, hq190, h⟩ := Option.bind_eq_some_iff.mp h
        refine ru_callV (tm_X12_withdraw hl0 (by omega) hq190) dL_law_1926 rfl pm_L_240 mf_X12_withdraw (ab_rcv_of hrc rfl) rfl rfl (Nat.le_of_ble_eq_true rfl) ?_
        refine ru_istore dL_law_1929 (by decide) <| ru_aload_n (i := 2) dL_law_1931 rfl rfl <| ?_
        obtain ⟨_, hrc, h⟩ := Option.bind_eq_some_iff.mp h
        obtain ⟨q191, hq191, h⟩ := Option.bind_eq_some_iff.mp h
        refine ru_callV (tm_X12_thrown hl0 (by omega) hq191) dL_law_1932 rfl pm_L_129 mf_X12_thrown (ab_rcv_of hrc rfl) rfl rfl (Nat.le_of_ble_eq_true rfl) ?_
        refine ru_iload dL_law_1935 rfl <| ?_
        refine ru_icmp_eq (tgt := 1942) dL_law_1937 (by decide) (fun hc => ?_) (fun hc => ?_)
        · rw [if_pos hc] at h
          refine ru_iload dL_law_1942 rfl <| ?_
          refine ru_if_ne (tgt := 1959) dL_law_1944 (by decide) (fun hc => ?_) (fun hc => ?_)
          · rw [if_neg hc] at h
            exact ru_pick [0, 1, 2, 3, 4] rfl (tbb_L_law_1959 hl0 hd _ ih _ _ _ _ _ _ h)
          · rw [if_pos hc] at h
            refine ru_aload_n (i := 3) dL_law_1947 rfl rfl <| ru_iconst dL_law_1948 kc_i_0 <| ?_
            refine ru_laload h dL_law_1949 ?_
            intro v192 h
            refine ru_iload dL_law_1950 rfl <| ru_i2l dL_law_1952 <| ru_lcmp dL_law_1953 <| ?_
            refine ru_if_eq (tgt := 1959) dL_law_1954 (by decide) (fun hc => ?_) (fun hc => ?_)
            · rw [if_pos hc] at h
              exact ru_pick [0, 1, 2, 3, 4] rfl (tbb_L_law_1959 hl0 hd _ ih _ _ _ _ _ _ h)
            · rw [if_neg hc] at h
              refine ru_iconst dL_law_1957 kc_i_0 <| ?_
              cases h
              exact ru_ret (v := some (.int _)) ⟨_, rfl, ab_nz0, dL_law_1958⟩
        · rw [if_neg hc] at h
          refine ru_iconst dL_law_1940 kc_i_0 <| ?_
          cases h
          exact ru_ret (v := some (.int _)) ⟨_, rfl, ab_nz0, dL_law_1941⟩
      rcases ab_iff h with ⟨hc, h⟩ | ⟨hc34, h⟩
      · rw [hc]
        refine ru_tableIn (off := 1922) (tgt := 1962) dL_law_40 (by decide) (by decide) (by decide) (by decide) ?_
        refine ru_aload_n (i := 1) dL_law_1962 rfl rfl <| ru_aload_n (i := 0) dL_law_1963 rfl rfl <| ru_iload dL_law_1964 rfl <| ru_iconst dL_law_1966 kc_i_1 <| ru_iadd dL_law_1967 <| ?_
        rcases ab_iff h with ⟨hc, h⟩ | ⟨hc, h⟩
        · cases h
        refine ru_sld hc dL_law_1968 ?_
        refine ru_aload_n (i := 3) dL_law_1969 rfl rfl <| ?_
        obtain ⟨q194, hq194, h⟩ := Option.bind_eq_some_iff.mp h
        refine ru_callSH (tm_L_stop hl0 (by omega) hq194) dL_law_1970 rfl pm_L_241 mf_L_stop rfl rfl (Nat.le_of_ble_eq_true rfl) ?_
        refine ru_istore dL_law_1973 (by decide) <| ru_aload_n (i := 2) dL_law_1975 rfl rfl <| ru_aload_n (i := 0) dL_law_1976 rfl rfl <| ru_iload dL_law_1977 rfl <| ru_iconst dL_law_1979 kc_i_1 <| ru_iadd dL_law_1980 <| ?_
        rcases ab_iff h with ⟨hc, h⟩ | ⟨hc, h⟩
        · cases h
        refine ru_sld hc dL_law_1981 ?_
        obtain ⟨_, hrc, h⟩ := Option.bind_eq_some_iff.mp h
        obtain ⟨q196, hq196, h⟩ := Option.bind_eq_some_iff.mp h
        refine ru_callV (tm_X12_stop hl0 (by omega) hq196) dL_law_1982 rfl pm_L_243 mf_X12_stop (ab_rcv_of hrc rfl) rfl rfl (Nat.le_of_ble_eq_true rfl) ?_
        refine ru_istore dL_law_1985 (by decide) <| ru_aload_n (i := 2) dL_law_1987 rfl rfl <| ?_
        obtain ⟨_, hrc, h⟩ := Option.bind_eq_some_iff.mp h
        obtain ⟨q197, hq197, h⟩ := Option.bind_eq_some_iff.mp h
        refine ru_callV (tm_X12_thrown hl0 (by omega) hq197) dL_law_1988 rfl pm_L_129 mf_X12_thrown (ab_rcv_of hrc rfl) rfl rfl (Nat.le_of_ble_eq_true rfl) ?_
        refine ru_iload dL_law_1991 rfl <| ?_
        refine ru_icmp_eq (tgt := 1998) dL_law_1993 (by decide) (fun hc => ?_) (fun hc => ?_)
        · rw [if_pos hc] at h
          refine ru_iload dL_law_1998 rfl <| ?_
          refine ru_if_ne (tgt := 2015) dL_law_2000 (by decide) (fun hc => ?_) (fun hc => ?_)
          · rw [if_neg hc] at h
            exact ru_pick [0, 1, 2, 3, 4] rfl (tbb_L_law_2015 hl0 hd _ ih _ _ _ _ _ _ h)
          · rw [if_pos hc] at h
            refine ru_aload_n (i := 3) dL_law_2003 rfl rfl <| ru_iconst dL_law_2004 kc_i_0 <| ?_
            refine ru_laload h dL_law_2005 ?_
            intro v198 h
            refine ru_iload dL_law_2006 rfl <| ru_i2l dL_law_2008 <| ru_lcmp dL_law_2009 <| ?_
            refine ru_if_eq (tgt := 2015) dL_law_2010 (by decide) (fun hc => ?_) (fun hc => ?_)
            · rw [if_pos hc] at h
              exact ru_pick [0, 1, 2, 3, 4] rfl (tbb_L_law_2015 hl0 hd _ ih _ _ _ _ _ _ h)
            · rw [if_neg hc] at h
              refine ru_iconst dL_law_2013 kc_i_0 <| ?_
              cases h
              exact ru_ret (v := some (.int _)) ⟨_, rfl, ab_nz0, dL_law_2014⟩
        · rw [if_neg hc] at h
          refine ru_iconst dL_law_1996 kc_i_0 <| ?_
          cases h
          exact ru_ret (v := some (.int _)) ⟨_, rfl, ab_nz0, dL_law_1997⟩
      rcases ab_iff h with ⟨hc, h⟩ | ⟨hc35, h⟩
      · rw [hc]
        refine ru_tableIn (off := 1978) (tgt := 2018) dL_law_40 (by decide) (by decide) (by decide) (by decide) ?_
        refine ru_aload_n (i := 1) dL_law_2018 rfl rfl <| ru_aload_n (i := 0) dL_law_2019 rfl rfl <| ru_iload dL_law_2020 rfl <| ru_iconst dL_law_2022 kc_i_1 <| ru_iadd dL_law_2023 <| ?_
        rcases ab_iff h with ⟨hc, h⟩ | ⟨hc, h⟩
        · cases h
        refine ru_sld hc dL_law_2024 ?_
        refine ru_aload_n (i := 3) dL_law_2025 rfl rfl <| ?_
        obtain ⟨q200, hq200, h⟩ := Option.bind_eq_some_iff.mp h
        refine ru_callSH (tm_L_evict hl0 (by omega) hq200) dL_law_2026 rfl pm_L_244 mf_L_evict rfl rfl (Nat.le_of_ble_eq_true rfl) ?_
        refine ru_istore dL_law_2029 (by decide) <| ru_aload_n (i := 2) dL_law_2031 rfl rfl <| ru_aload_n (i := 0) dL_law_2032 rfl rfl <| ru_iload dL_law_2033 rfl <| ru_iconst dL_law_2035 kc_i_1 <| ru_iadd dL_law_2036 <| ?_
        rcases ab_iff h with ⟨hc, h⟩ | ⟨hc, h⟩
        · cases h
        refine ru_sld hc dL_law_2037 ?_
        obtain ⟨_, hrc, h⟩ := Option.bind_eq_some_iff.mp h
        obtain ⟨q202, hq202, h⟩ := Option.bind_eq_some_iff.mp h
        refine ru_callV (tm_X12_evict hl0 (by omega) hq202) dL_law_2038 rfl pm_L_246 mf_X12_evict (ab_rcv_of hrc rfl) rfl rfl (Nat.le_of_ble_eq_true rfl) ?_
        refine ru_istore dL_law_2041 (by decide) <| ru_aload_n (i := 2) dL_law_2043 rfl rfl <| ?_
        obtain ⟨_, hrc, h⟩ := Option.bind_eq_some_iff.mp h
        obtain ⟨q203, hq203, h⟩ := Option.bind_eq_some_iff.mp h
        refine ru_callV (tm_X12_thrown hl0 (by omega) hq203) dL_law_2044 rfl pm_L_129 mf_X12_thrown (ab_rcv_of hrc rfl) rfl rfl (Nat.le_of_ble_eq_true rfl) ?_
        refine ru_iload dL_law_2047 rfl <| ?_
        refine ru_icmp_eq (tgt := 2054) dL_law_2049 (by decide) (fun hc => ?_) (fun hc => ?_)
        · rw [if_pos hc] at h
          refine ru_iload dL_law_2054 rfl <| ?_
          refine ru_if_ne (tgt := 2071) dL_law_2056 (by decide) (fun hc => ?_) (fun hc => ?_)
          · rw [if_neg hc] at h
            exact ru_pick [0, 1, 2, 3, 4] rfl (tbb_L_law_2071 hl0 hd _ ih _ _ _ _ _ _ h)
          · rw [if_pos hc] at h
            refine ru_aload_n (i := 3) dL_law_2059 rfl rfl <| ru_iconst dL_law_2060 kc_i_0 <| ?_
            refine ru_laload h dL_law_2061 ?_
            intro v204 h
            refine ru_iload dL_law_2062 rfl <| ru_i2l dL_law_2064 <| ru_lcmp dL_law_2065 <| ?_
            refine ru_if_eq (tgt := 2071) dL_law_2066 (by decide) (fun hc => ?_) (fun hc => ?_)
            · rw [if_pos hc] at h
              exact ru_pick [0, 1, 2, 3, 4] rfl (tbb_L_law_2071 hl0 hd _ ih _ _ _ _ _ _ h)
            · rw [if_neg hc] at h
              refine ru_iconst dL_law_2069 kc_i_0 <| ?_
              cases h
              exact ru_ret (v := some (.int _)) ⟨_, rfl, ab_nz0, dL_law_2070⟩
        · rw [if_neg hc] at h
          refine ru_iconst dL_law_2052 kc_i_0 <| ?_
          cases h
          exact ru_ret (v := some (.int _)) ⟨_, rfl, ab_nz0, dL_law_2053⟩
      rcases ab_iff h with ⟨hc, h⟩ | ⟨hc36, h⟩
      · rw [hc]
        refine ru_tableIn (off := 2034) (tgt := 2074) dL_law_40 (by decide) (by decide) (by decide) (by decide) ?_
        refine ru_aload_n (i := 1) dL_law_2074 rfl rfl <| ru_aload_n (i := 0) dL_law_2075 rfl rfl <| ru_iload dL_law_2076 rfl <| ru_iconst dL_law_2078 kc_i_1 <| ru_iadd dL_law_2079 <| ?_
        rcases ab_iff h with ⟨hc, h⟩ | ⟨hc, h⟩
        · cases h
        refine ru_sld hc dL_law_2080 ?_
        refine ru_aload_n (i := 0) dL_law_2081 rfl rfl <| ru_iload dL_law_2082 rfl <| ru_iconst dL_law_2084 kc_i_2 <| ru_iadd dL_law_2085 <| ?_
        rcases ab_iff h with ⟨hc, h⟩ | ⟨hc, h⟩
        · cases h
        refine ru_sld hc dL_law_2086 ?_
        refine ru_aload_n (i := 3) dL_law_2087 rfl rfl <| ?_
        obtain ⟨q207, hq207, h⟩ := Option.bind_eq_some_iff.mp h
        refine ru_callSH (tm_L_migrate hl0 (by omega) hq207) dL_law_2088 rfl pm_L_247 mf_L_migrate rfl rfl (Nat.le_of_ble_eq_true rfl) ?_
        refine ru_istore dL_law_2091 (by decide) <| ru_aload_n (i := 2) dL_law_2093 rfl rfl <| ru_aload_n (i := 0) dL_law_2094 rfl rfl <| ru_iload dL_law_2095 rfl <| ru_iconst dL_law_2097 kc_i_1 <| ru_iadd dL_law_2098 <| ?_
        rcases ab_iff h with ⟨hc, h⟩ | ⟨hc, h⟩
        · cases h
        refine ru_sld hc dL_law_2099 ?_
        refine ru_aload_n (i := 0) dL_law_2100 rfl rfl <| ru_iload dL_law_2101 rfl <| ru_iconst dL_law_2103 kc_i_2 <| ru_iadd dL_law_2104 <| ?_
        rcases ab_iff h with ⟨hc, h⟩ | ⟨hc, h⟩
        · cases h
        refine ru_sld hc dL_law_2105 ?_
        obtain ⟨_, hrc, h⟩ := Option.bind_eq_some_iff.mp h
        obtain ⟨q210, hq210, h⟩ := Option.bind_eq_some_iff.mp h
        refine ru_callV (tm_X12_migrate hl0 (by omega) hq210) dL_law_2106 rfl pm_L_249 mf_X12_migrate (ab_rcv_of hrc rfl) rfl rfl (Nat.le_of_ble_eq_true rfl) ?_
        refine ru_istore dL_law_2109 (by decide) <| ru_aload_n (i := 2) dL_law_2111 rfl rfl <| ?_
        obtain ⟨_, hrc, h⟩ := Option.bind_eq_some_iff.mp h
        obtain ⟨q211, hq211, h⟩ := Option.bind_eq_some_iff.mp h
        refine ru_callV (tm_X12_thrown hl0 (by omega) hq211) dL_law_2112 rfl pm_L_129 mf_X12_thrown (ab_rcv_of hrc rfl) rfl rfl (Nat.le_of_ble_eq_true rfl) ?_
        refine ru_iload dL_law_2115 rfl <| ?_
        refine ru_icmp_eq (tgt := 2122) dL_law_2117 (by decide) (fun hc => ?_) (fun hc => ?_)
        · rw [if_pos hc] at h
          refine ru_iload dL_law_2122 rfl <| ?_
          refine ru_if_ne (tgt := 2139) dL_law_2124 (by decide) (fun hc => ?_) (fun hc => ?_)
          · rw [if_neg hc] at h
            exact ru_pick [0, 1, 2, 3, 4] rfl (tbb_L_law_2139 hl0 hd _ ih _ _ _ _ _ _ h)
          · rw [if_pos hc] at h
            refine ru_aload_n (i := 3) dL_law_2127 rfl rfl <| ru_iconst dL_law_2128 kc_i_0 <| ?_
            refine ru_laload h dL_law_2129 ?_
            intro v212 h
            refine ru_iload dL_law_2130 rfl <| ru_i2l dL_law_2132 <| ru_lcmp dL_law_2133 <| ?_
            refine ru_if_eq (tgt := 2139) dL_law_2134 (by decide) (fun hc => ?_) (fun hc => ?_)
            · rw [if_pos hc] at h
              exact ru_pick [0, 1, 2, 3, 4] rfl (tbb_L_law_2139 hl0 hd _ ih _ _ _ _ _ _ h)
            · rw [if_neg hc] at h
              refine ru_iconst dL_law_2137 kc_i_0 <| ?_
              cases h
              exact ru_ret (v := some (.int _)) ⟨_, rfl, ab_nz0, dL_law_2138⟩
        · rw [if_neg hc] at h
          refine ru_iconst dL_law_2120 kc_i_0 <| ?_
          cases h
          exact ru_ret (v := some (.int _)) ⟨_, rfl, ab_nz0, dL_law_2121⟩
      rcases ab_iff h with ⟨hc, h⟩ | ⟨hc37, h⟩
      · rw [hc]
        refine ru_tableIn (off := 2102) (tgt := 2142) dL_law_40 (by decide) (by decide) (by decide) (by decide) ?_
        refine ru_aload_n (i := 1) dL_law_2142 rfl rfl <| ru_aload_n (i := 0) dL_law_2143 rfl rfl <| ru_iload dL_law_2144 rfl <| ru_iconst dL_law_2146 kc_i_1 <| ru_iadd dL_law_2147 <| ?_
        rcases ab_iff h with ⟨hc, h⟩ | ⟨hc, h⟩
        · cases h
        refine ru_sld hc dL_law_2148 ?_
        refine ru_aload_n (i := 3) dL_law_2149 rfl rfl <| ?_
        obtain ⟨q214, hq214, h⟩ := Option.bind_eq_some_iff.mp h
        refine ru_callSH (tm_L_drain hl0 (by omega) hq214) dL_law_2150 rfl pm_L_250 mf_L_drain rfl rfl (Nat.le_of_ble_eq_true rfl) ?_
        refine ru_istore dL_law_2153 (by decide) <| ru_aload_n (i := 2) dL_law_2155 rfl rfl <| ru_aload_n (i := 0) dL_law_2156 rfl rfl <| ru_iload dL_law_2157 rfl <| ru_iconst dL_law_2159 kc_i_1 <| ru_iadd dL_law_2160 <| ?_
        rcases ab_iff h with ⟨hc, h⟩ | ⟨hc, h⟩
        · cases h
        refine ru_sld hc dL_law_2161 ?_
        obtain ⟨_, hrc, h⟩ := Option.bind_eq_some_iff.mp h
        obtain ⟨q216, hq216, h⟩ := Option.bind_eq_some_iff.mp h
        refine ru_callV (tm_X12_drain hl0 (by omega) hq216) dL_law_2162 rfl pm_L_252 mf_X12_drain (ab_rcv_of hrc rfl) rfl rfl (Nat.le_of_ble_eq_true rfl) ?_
        refine ru_istore dL_law_2165 (by decide) <| ru_aload_n (i := 2) dL_law_2167 rfl rfl <| ?_
        obtain ⟨_, hrc, h⟩ := Option.bind_eq_some_iff.mp h
        obtain ⟨q217, hq217, h⟩ := Option.bind_eq_some_iff.mp h
        refine ru_callV (tm_X12_thrown hl0 (by omega) hq217) dL_law_2168 rfl pm_L_129 mf_X12_thrown (ab_rcv_of hrc rfl) rfl rfl (Nat.le_of_ble_eq_true rfl) ?_
        refine ru_iload dL_law_2171 rfl <| ?_
        refine ru_icmp_eq (tgt := 2178) dL_law_2173 (by decide) (fun hc => ?_) (fun hc => ?_)
        · rw [if_pos hc] at h
          refine ru_iload dL_law_2178 rfl <| ?_
          refine ru_if_ne (tgt := 2195) dL_law_2180 (by decide) (fun hc => ?_) (fun hc => ?_)
          · rw [if_neg hc] at h
            exact ru_pick [0, 1, 2, 3, 4] rfl (tbb_L_law_2195 hl0 hd _ ih _ _ _ _ _ _ h)
          · rw [if_pos hc] at h
            refine ru_aload_n (i := 3) dL_law_2183 rfl rfl <| ru_iconst dL_law_2184 kc_i_0 <| ?_
            refine ru_laload h dL_law_2185 ?_
            intro v218 h
            refine ru_iload dL_law_2186 rfl <| ru_i2l dL_law_2188 <| ru_lcmp dL_law_2189 <| ?_
            refine ru_if_eq (tgt := 2195) dL_law_2190 (by decide) (fun hc => ?_) (fun hc => ?_)
            · rw [if_pos hc] at h
              exact ru_pick [0, 1, 2, 3, 4] rfl (tbb_L_law_2195 hl0 hd _ ih _ _ _ _ _ _ h)
            · rw [if_neg hc] at h
              refine ru_iconst dL_law_2193 kc_i_0 <| ?_
              cases h
              exact ru_ret (v := some (.int _)) ⟨_, rfl, ab_nz0, dL_law_2194⟩
        · rw [if_neg hc] at h
          refine ru_iconst dL_law_2176 kc_i_0 <| ?_
          cases h
          exact ru_ret (v := some (.int _)) ⟨_, rfl, ab_nz0, dL_law_2177⟩
      rcases ab_iff h with ⟨hc, h⟩ | ⟨hc38, h⟩
      · rw [hc]
        refine ru_tableIn (off := 2158) (tgt := 2198) dL_law_40 (by decide) (by decide) (by decide) (by decide) ?_
        refine ru_aload_n (i := 1) dL_law_2198 rfl rfl <| ?_
        obtain ⟨_, hrc, h⟩ := Option.bind_eq_some_iff.mp h
        obtain ⟨q219, hq219, h⟩ := Option.bind_eq_some_iff.mp h
        refine ru_callV (tm_X11_undo hl0 (by omega) hq219) dL_law_2199 rfl pm_L_253 mf_X11_undo (ab_rcv_of hrc rfl) rfl rfl (Nat.le_of_ble_eq_true rfl) ?_
        refine ru_aload_n (i := 2) dL_law_2202 rfl rfl <| ?_
        obtain ⟨_, hrc, h⟩ := Option.bind_eq_some_iff.mp h
        obtain ⟨q220, hq220, h⟩ := Option.bind_eq_some_iff.mp h
        refine ru_callV (tm_X12_undo hl0 (by omega) hq220) dL_law_2203 rfl pm_L_256 mf_X12_undo (ab_rcv_of hrc rfl) rfl rfl (Nat.le_of_ble_eq_true rfl) ?_
        refine ru_icmp_eq (tgt := 2330) dL_law_2206 (by decide) (fun hc => ?_) (fun hc => ?_)
        · rw [if_pos hc] at h
          exact ru_pick [0, 1, 2, 3, 4] rfl (tbb_L_law_2330 hl0 hd _ ih _ _ _ _ _ _ h)
        · rw [if_neg hc] at h
          refine ru_iconst dL_law_2209 kc_i_0 <| ?_
          cases h
          exact ru_ret (v := some (.int _)) ⟨_, rfl, ab_nz0, dL_law_2210⟩
      rcases ab_iff h with ⟨hc, h⟩ | ⟨hc39, h⟩
      · rw [hc]
        refine ru_tableIn (off := 2171) (tgt := 2211) dL_law_40 (by decide) (by decide) (by decide) (by decide) ?_
        refine ru_aload_n (i := 1) dL_law_2211 rfl rfl <| ru_aload_n (i := 0) dL_law_2212 rfl rfl <| ru_iload dL_law_2213 rfl <| ru_iconst dL_law_2215 kc_i_1 <| ru_iadd dL_law_2216 <| ?_
        rcases ab_iff h with ⟨hc, h⟩ | ⟨hc, h⟩
        · cases h
        refine ru_sld hc dL_law_2217 ?_
        refine ru_aload_n (i := 3) dL_law_2218 rfl rfl <| ?_
        obtain ⟨q222, hq222, h⟩ := Option.bind_eq_some_iff.mp h
        refine ru_callSH (tm_L_saveSnapshot hl0 (by omega) hq222) dL_law_2219 rfl pm_L_257 mf_L_saveSnapshot rfl rfl (Nat.le_of_ble_eq_true rfl) ?_
        refine ru_istore dL_law_2222 (by decide) <| ru_aload_n (i := 2) dL_law_2224 rfl rfl <| ru_aload_n (i := 0) dL_law_2225 rfl rfl <| ru_iload dL_law_2226 rfl <| ru_iconst dL_law_2228 kc_i_1 <| ru_iadd dL_law_2229 <| ?_
        rcases ab_iff h with ⟨hc, h⟩ | ⟨hc, h⟩
        · cases h
        refine ru_sld hc dL_law_2230 ?_
        obtain ⟨_, hrc, h⟩ := Option.bind_eq_some_iff.mp h
        obtain ⟨q224, hq224, h⟩ := Option.bind_eq_some_iff.mp h
        refine ru_callV (tm_X12_saveSnapshot hl0 (by omega) hq224) dL_law_2231 rfl pm_L_259 mf_X12_saveSnapshot (ab_rcv_of hrc rfl) rfl rfl (Nat.le_of_ble_eq_true rfl) ?_
        refine ru_istore dL_law_2234 (by decide) <| ru_aload_n (i := 2) dL_law_2236 rfl rfl <| ?_
        obtain ⟨_, hrc, h⟩ := Option.bind_eq_some_iff.mp h
        obtain ⟨q225, hq225, h⟩ := Option.bind_eq_some_iff.mp h
        refine ru_callV (tm_X12_thrown hl0 (by omega) hq225) dL_law_2237 rfl pm_L_129 mf_X12_thrown (ab_rcv_of hrc rfl) rfl rfl (Nat.le_of_ble_eq_true rfl) ?_
        refine ru_iload dL_law_2240 rfl <| ?_
        refine ru_icmp_eq (tgt := 2247) dL_law_2242 (by decide) (fun hc => ?_) (fun hc => ?_)
        · rw [if_pos hc] at h
          refine ru_iload dL_law_2247 rfl <| ?_
          refine ru_if_ne (tgt := 2271) dL_law_2249 (by decide) (fun hc => ?_) (fun hc => ?_)
          · rw [if_neg hc] at h
            exact ru_pick [0, 1, 2, 3, 4] rfl (tbb_L_law_2271 hl0 hd _ ih _ _ _ _ _ _ h)
          · rw [if_pos hc] at h
            refine ru_aload_n (i := 3) dL_law_2252 rfl rfl <| ru_iconst dL_law_2253 kc_i_0 <| ?_
            refine ru_laload h dL_law_2254 ?_
            intro v226 h
            refine ru_iload dL_law_2255 rfl <| ?_
            refine ru_if_eq (tgt := 2264) dL_law_2257 (by decide) (fun hc => ?_) (fun hc => ?_)
            · rw [if_pos hc] at h
              refine ru_lconst dL_law_2264 (v := 0) rfl <| ?_
              exact ru_pick [0, 1, 2, 3, 4] rfl (tbb_L_law_2265 hl0 hd _ ih _ _ _ _ _ _ _ _ h)
            · rw [if_neg hc] at h
              refine ru_lconst dL_law_2260 (v := 1) rfl <| ru_goto (tgt := 2265) dL_law_2261 (by decide) <| ?_
              exact ru_pick [0, 1, 2, 3, 4] rfl (tbb_L_law_2265 hl0 hd _ ih _ _ _ _ _ _ _ _ h)
        · rw [if_neg hc] at h
          refine ru_iconst dL_law_2245 kc_i_0 <| ?_
          cases h
          exact ru_ret (v := some (.int _)) ⟨_, rfl, ab_nz0, dL_law_2246⟩
      rcases ab_iff h with ⟨hc, h⟩ | ⟨hc40, h⟩
      · rw [hc]
        refine ru_tableIn (off := 2234) (tgt := 2274) dL_law_40 (by decide) (by decide) (by decide) (by decide) ?_
        refine ru_aload_n (i := 1) dL_law_2274 rfl rfl <| ru_aload_n (i := 0) dL_law_2275 rfl rfl <| ru_iload dL_law_2276 rfl <| ru_iconst dL_law_2278 kc_i_1 <| ru_iadd dL_law_2279 <| ?_
        rcases ab_iff h with ⟨hc, h⟩ | ⟨hc, h⟩
        · cases h
        refine ru_sld hc dL_law_2280 ?_
        refine ru_aload_n (i := 3) dL_law_2281 rfl rfl <| ?_
        obtain ⟨q228, hq228, h⟩ := Option.bind_eq_some_iff.mp h
        refine ru_callSH (tm_L_restoreSnapshot hl0 (by omega) hq228) dL_law_2282 rfl pm_L_260 mf_L_restoreSnapshot rfl rfl (Nat.le_of_ble_eq_true rfl) ?_
        refine ru_istore dL_law_2285 (by decide) <| ru_aload_n (i := 2) dL_law_2287 rfl rfl <| ru_aload_n (i := 0) dL_law_2288 rfl rfl <| ru_iload dL_law_2289 rfl <| ru_iconst dL_law_2291 kc_i_1 <| ru_iadd dL_law_2292 <| ?_
        rcases ab_iff h with ⟨hc, h⟩ | ⟨hc, h⟩
        · cases h
        refine ru_sld hc dL_law_2293 ?_
        obtain ⟨_, hrc, h⟩ := Option.bind_eq_some_iff.mp h
        obtain ⟨q230, hq230, h⟩ := Option.bind_eq_some_iff.mp h
        refine ru_callV (tm_X12_restoreSnapshot hl0 (by omega) hq230) dL_law_2294 rfl pm_L_262 mf_X12_restoreSnapshot (ab_rcv_of hrc rfl) rfl rfl (Nat.le_of_ble_eq_true rfl) ?_
        refine ru_istore dL_law_2297 (by decide) <| ru_aload_n (i := 2) dL_law_2299 rfl rfl <| ?_
        obtain ⟨_, hrc, h⟩ := Option.bind_eq_some_iff.mp h
        obtain ⟨q231, hq231, h⟩ := Option.bind_eq_some_iff.mp h
        refine ru_callV (tm_X12_thrown hl0 (by omega) hq231) dL_law_2300 rfl pm_L_129 mf_X12_thrown (ab_rcv_of hrc rfl) rfl rfl (Nat.le_of_ble_eq_true rfl) ?_
        refine ru_iload dL_law_2303 rfl <| ?_
        refine ru_icmp_eq (tgt := 2310) dL_law_2305 (by decide) (fun hc => ?_) (fun hc => ?_)
        · rw [if_pos hc] at h
          refine ru_iload dL_law_2310 rfl <| ?_
          refine ru_if_ne (tgt := 2327) dL_law_2312 (by decide) (fun hc => ?_) (fun hc => ?_)
          · rw [if_neg hc] at h
            exact ru_pick [0, 1, 2, 3, 4] rfl (tbb_L_law_2327 hl0 hd _ ih _ _ _ _ _ _ h)
          · rw [if_pos hc] at h
            refine ru_aload_n (i := 3) dL_law_2315 rfl rfl <| ru_iconst dL_law_2316 kc_i_0 <| ?_
            refine ru_laload h dL_law_2317 ?_
            intro v232 h
            refine ru_iload dL_law_2318 rfl <| ru_i2l dL_law_2320 <| ru_lcmp dL_law_2321 <| ?_
            refine ru_if_eq (tgt := 2327) dL_law_2322 (by decide) (fun hc => ?_) (fun hc => ?_)
            · rw [if_pos hc] at h
              exact ru_pick [0, 1, 2, 3, 4] rfl (tbb_L_law_2327 hl0 hd _ ih _ _ _ _ _ _ h)
            · rw [if_neg hc] at h
              refine ru_iconst dL_law_2325 kc_i_0 <| ?_
              cases h
              exact ru_ret (v := some (.int _)) ⟨_, rfl, ab_nz0, dL_law_2326⟩
        · rw [if_neg hc] at h
          refine ru_iconst dL_law_2308 kc_i_0 <| ?_
          cases h
          exact ru_ret (v := some (.int _)) ⟨_, rfl, ab_nz0, dL_law_2309⟩
      have e0 := ab_ne_int hc0 (by decide : (0 : Int32).toInt = 0)
      have e1 := ab_ne_int hc1 (by decide : (1 : Int32).toInt = 1)
      have e2 := ab_ne_int hc2 (by decide : (2 : Int32).toInt = 2)
      have e3 := ab_ne_int hc3 (by decide : (3 : Int32).toInt = 3)
      have e4 := ab_ne_int hc4 (by decide : (4 : Int32).toInt = 4)
      have e5 := ab_ne_int hc5 (by decide : (5 : Int32).toInt = 5)
      have e6 := ab_ne_int hc6 (by decide : (6 : Int32).toInt = 6)
      have e7 := ab_ne_int hc7 (by decide : (7 : Int32).toInt = 7)
      have e8 := ab_ne_int hc8 (by decide : (8 : Int32).toInt = 8)
      have e9 := ab_ne_int hc9 (by decide : (9 : Int32).toInt = 9)
      have e10 := ab_ne_int hc10 (by decide : (10 : Int32).toInt = 10)
      have e11 := ab_ne_int hc11 (by decide : (11 : Int32).toInt = 11)
      have e12 := ab_ne_int hc12 (by decide : (12 : Int32).toInt = 12)
      have e13 := ab_ne_int hc13 (by decide : (13 : Int32).toInt = 13)
      have e14 := ab_ne_int hc14 (by decide : (14 : Int32).toInt = 14)
      have e15 := ab_ne_int hc15 (by decide : (15 : Int32).toInt = 15)
      have e16 := ab_ne_int hc16 (by decide : (16 : Int32).toInt = 16)
      have e17 := ab_ne_int hc17 (by decide : (17 : Int32).toInt = 17)
      have e18 := ab_ne_int hc18 (by decide : (18 : Int32).toInt = 18)
      have e19 := ab_ne_int hc19 (by decide : (19 : Int32).toInt = 19)
      have e20 := ab_ne_int hc20 (by decide : (20 : Int32).toInt = 20)
      have e21 := ab_ne_int hc21 (by decide : (21 : Int32).toInt = 21)
      have e22 := ab_ne_int hc22 (by decide : (22 : Int32).toInt = 22)
      have e23 := ab_ne_int hc23 (by decide : (23 : Int32).toInt = 23)
      have e24 := ab_ne_int hc24 (by decide : (24 : Int32).toInt = 24)
      have e25 := ab_ne_int hc25 (by decide : (25 : Int32).toInt = 25)
      have e26 := ab_ne_int hc26 (by decide : (26 : Int32).toInt = 26)
      have e27 := ab_ne_int hc27 (by decide : (27 : Int32).toInt = 27)
      have e28 := ab_ne_int hc28 (by decide : (28 : Int32).toInt = 28)
      have e29 := ab_ne_int hc29 (by decide : (29 : Int32).toInt = 29)
      have e30 := ab_ne_int hc30 (by decide : (30 : Int32).toInt = 30)
      have e31 := ab_ne_int hc31 (by decide : (31 : Int32).toInt = 31)
      have e32 := ab_ne_int hc32 (by decide : (32 : Int32).toInt = 32)
      have e33 := ab_ne_int hc33 (by decide : (33 : Int32).toInt = 33)
      have e34 := ab_ne_int hc34 (by decide : (34 : Int32).toInt = 34)
      have e35 := ab_ne_int hc35 (by decide : (35 : Int32).toInt = 35)
      have e36 := ab_ne_int hc36 (by decide : (36 : Int32).toInt = 36)
      have e37 := ab_ne_int hc37 (by decide : (37 : Int32).toInt = 37)
      have e38 := ab_ne_int hc38 (by decide : (38 : Int32).toInt = 38)
      have e39 := ab_ne_int hc39 (by decide : (39 : Int32).toInt = 39)
      have e40 := ab_ne_int hc40 (by decide : (40 : Int32).toInt = 40)
      refine ru_tableOut (tgt := 2330) dL_law_40 (by omega) (by decide) ?_
      exact ru_pick [0, 1, 2, 3, 4] rfl (tbb_L_law_2330 hl0 hd _ ih _ _ _ _ _ _ h)
