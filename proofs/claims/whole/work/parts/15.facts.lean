/-! ===== small rows for the printed proofs ===== -/
def ab_fu : Nat := 1000000
theorem ab_iff {α : Type} {c : Prop} {inst : Decidable c} {a b : Option α} {z : α} (h : (@ite _ c inst a b) = some z) : (c ∧ a = some z) ∨ (¬ c ∧ b = some z) := by
  by_cases hc : c
  · rw [if_pos hc] at h; exact Or.inl ⟨hc, h⟩
  · rw [if_neg hc] at h; exact Or.inr ⟨hc, h⟩
theorem ab_inc {x v : Int32} {n : Int} (h : Int32.ofInt n = v) : x + Int32.ofInt n = x + v := by rw [h]
theorem ab_ne_int {x c : Int32} {k : Int} (h : ¬ x = c) (e : c.toInt = k) : x.toInt ≠ k := fun q => h (Int32.toInt_inj.mp (q.trans e.symm))
def ab_oxI : Int32 ⊕ Nat → ab_O
  | .inl v => .inl (some (.int v))
  | .inr k => .inr k
def ab_oxJ : Int64 ⊕ Nat → ab_O
  | .inl v => .inl (some (.long v))
  | .inr k => .inr k
def ab_oxV : Unit ⊕ Nat → ab_O
  | .inl _ => .inl none
  | .inr k => .inr k
def ab_ck (i n : Int32) : Option Unit := if ¬ i < 0 ∧ i < n then some () else none
/-! ===== words and links by their places (by program: wip/whole/facts.py) ===== -/
theorem fi_X0 : ∀ w ∈ u_ws RX0 TX0 2, w ∈ ab_tb := by decide +kernel
theorem fi_X1 : ∀ w ∈ u_ws RX1 TX1 6, w ∈ ab_tb := by decide +kernel
theorem fi_X2 : ∀ w ∈ u_ws RX2 TX2 4, w ∈ ab_tb := by decide +kernel
theorem fi_X3 : ∀ w ∈ u_ws RX3 TX3 4, w ∈ ab_tb := by decide +kernel
theorem fi_X4 : ∀ w ∈ u_ws RX4 TX4 5, w ∈ ab_tb := by decide +kernel
theorem fi_X5 : ∀ w ∈ u_ws RX5 TX5 3, w ∈ ab_tb := by decide +kernel
theorem fi_X6 : ∀ w ∈ u_ws RX6 TX6 6, w ∈ ab_tb := by decide +kernel
theorem fi_X7 : ∀ w ∈ u_ws RX7 TX7 10, w ∈ ab_tb := by decide +kernel
theorem fi_X8 : ∀ w ∈ u_ws RX8 TX8 7, w ∈ ab_tb := by decide +kernel
theorem fi_X9 : ∀ w ∈ u_ws RX9 TX9 3, w ∈ ab_tb := by decide +kernel
theorem fi_X10 : ∀ w ∈ u_ws RX10 TX10 4, w ∈ ab_tb := by decide +kernel
theorem fi_X11 : ∀ w ∈ u_ws RX11 TX11 9, w ∈ ab_tb := by decide +kernel
theorem fi_X12 : ∀ w ∈ u_ws RX12 TX12 33, w ∈ ab_tb := by decide +kernel
theorem fa_int : Cond.arrayClass .int ∈ ab_tb := ab_tb_at 173 (by decide +kernel) (by decide +kernel)
theorem fa_byte : Cond.arrayClass .byte ∈ ab_tb := ab_tb_at 172 (by decide +kernel) (by decide +kernel)
theorem fa_boolean : Cond.arrayClass .boolean ∈ ab_tb := ab_tb_at 1520 (by decide +kernel) (by decide +kernel)
theorem fa_long : Cond.arrayClass .long ∈ ab_tb := ab_tb_at 331 (by decide +kernel) (by decide +kernel)
theorem kc_b_10 : (Int8.ofInt 10).toInt32 = (10 : Int32) := by decide
theorem kc_b_100 : (Int8.ofInt 100).toInt32 = (100 : Int32) := by decide
theorem kc_b_11 : (Int8.ofInt 11).toInt32 = (11 : Int32) := by decide
theorem kc_b_116 : (Int8.ofInt 116).toInt32 = (116 : Int32) := by decide
theorem kc_b_12 : (Int8.ofInt 12).toInt32 = (12 : Int32) := by decide
theorem kc_b_122 : (Int8.ofInt 122).toInt32 = (122 : Int32) := by decide
theorem kc_b_13 : (Int8.ofInt 13).toInt32 = (13 : Int32) := by decide
theorem kc_b_14 : (Int8.ofInt 14).toInt32 = (14 : Int32) := by decide
theorem kc_b_16 : (Int8.ofInt 16).toInt32 = (16 : Int32) := by decide
theorem kc_b_20 : (Int8.ofInt 20).toInt32 = (20 : Int32) := by decide
theorem kc_b_24 : (Int8.ofInt 24).toInt32 = (24 : Int32) := by decide
theorem kc_b_32 : (Int8.ofInt 32).toInt32 = (32 : Int32) := by decide
theorem kc_b_36 : (Int8.ofInt 36).toInt32 = (36 : Int32) := by decide
theorem kc_b_40 : (Int8.ofInt 40).toInt32 = (40 : Int32) := by decide
theorem kc_b_41 : (Int8.ofInt 41).toInt32 = (41 : Int32) := by decide
theorem kc_b_42 : (Int8.ofInt 42).toInt32 = (42 : Int32) := by decide
theorem kc_b_43 : (Int8.ofInt 43).toInt32 = (43 : Int32) := by decide
theorem kc_b_45 : (Int8.ofInt 45).toInt32 = (45 : Int32) := by decide
theorem kc_b_47 : (Int8.ofInt 47).toInt32 = (47 : Int32) := by decide
theorem kc_b_48 : (Int8.ofInt 48).toInt32 = (48 : Int32) := by decide
theorem kc_b_57 : (Int8.ofInt 57).toInt32 = (57 : Int32) := by decide
theorem kc_b_59 : (Int8.ofInt 59).toInt32 = (59 : Int32) := by decide
theorem kc_b_6 : (Int8.ofInt 6).toInt32 = (6 : Int32) := by decide
theorem kc_b_63 : (Int8.ofInt 63).toInt32 = (63 : Int32) := by decide
theorem kc_b_64 : (Int8.ofInt 64).toInt32 = (64 : Int32) := by decide
theorem kc_b_7 : (Int8.ofInt 7).toInt32 = (7 : Int32) := by decide
theorem kc_b_8 : (Int8.ofInt 8).toInt32 = (8 : Int32) := by decide
theorem kc_b_86 : (Int8.ofInt 86).toInt32 = (86 : Int32) := by decide
theorem kc_b_9 : (Int8.ofInt 9).toInt32 = (9 : Int32) := by decide
theorem kc_b_96 : (Int8.ofInt 96).toInt32 = (96 : Int32) := by decide
theorem kc_b_97 : (Int8.ofInt 97).toInt32 = (97 : Int32) := by decide
theorem kc_b_99 : (Int8.ofInt 99).toInt32 = (99 : Int32) := by decide
theorem kc_b_m2 : (Int8.ofInt (-2)).toInt32 = ((-2) : Int32) := by decide
theorem kc_b_m3 : (Int8.ofInt (-3)).toInt32 = ((-3) : Int32) := by decide
theorem kc_b_m4 : (Int8.ofInt (-4)).toInt32 = ((-4) : Int32) := by decide
theorem kc_i_0 : Int32.ofInt 0 = (0 : Int32) := by decide
theorem kc_i_1 : Int32.ofInt 1 = (1 : Int32) := by decide
theorem kc_i_2 : Int32.ofInt 2 = (2 : Int32) := by decide
theorem kc_i_3 : Int32.ofInt 3 = (3 : Int32) := by decide
theorem kc_i_4 : Int32.ofInt 4 = (4 : Int32) := by decide
theorem kc_i_5 : Int32.ofInt 5 = (5 : Int32) := by decide
theorem kc_i_6 : Int32.ofInt 6 = (6 : Int32) := by decide
theorem kc_i_m1 : Int32.ofInt (-1) = ((-1) : Int32) := by decide
theorem kc_i_m8 : Int32.ofInt (-8) = ((-8) : Int32) := by decide
theorem kc_s_1000 : (Int16.ofInt 1000).toInt32 = (1000 : Int32) := by decide
theorem kc_s_1160 : (Int16.ofInt 1160).toInt32 = (1160 : Int32) := by decide
theorem kc_s_1640 : (Int16.ofInt 1640).toInt32 = (1640 : Int32) := by decide
theorem kc_s_200 : (Int16.ofInt 200).toInt32 = (200 : Int32) := by decide
theorem kc_s_232 : (Int16.ofInt 232).toInt32 = (232 : Int32) := by decide
theorem kc_s_255 : (Int16.ofInt 255).toInt32 = (255 : Int32) := by decide
theorem kc_s_256 : (Int16.ofInt 256).toInt32 = (256 : Int32) := by decide
theorem kc_s_400 : (Int16.ofInt 400).toInt32 = (400 : Int32) := by decide
theorem kc_s_4096 : (Int16.ofInt 4096).toInt32 = (4096 : Int32) := by decide
theorem kc_s_500 : (Int16.ofInt 500).toInt32 = (500 : Int32) := by decide
theorem kc_s_729 : (Int16.ofInt 729).toInt32 = (729 : Int32) := by decide
theorem kc_s_800 : (Int16.ofInt 800).toInt32 = (800 : Int32) := by decide
theorem kc_s_820 : (Int16.ofInt 820).toInt32 = (820 : Int32) := by decide
theorem kc_s_9998 : (Int16.ofInt 9998).toInt32 = (9998 : Int32) := by decide
theorem kc_s_9999 : (Int16.ofInt 9999).toInt32 = (9999 : Int32) := by decide
theorem pm_X10_1 : Cond.methodLink RX10 1 Lib.objectInit ∈ ab_tb := ab_tb_at 148 (by decide +kernel) (by decide +kernel)
theorem po_inst : Cond.instanceMethod Lib.objectInit ∈ ab_tb := ab_tb_at 129 (by decide +kernel) (by decide +kernel)
theorem po_code : Cond.code Lib.objectInit ⟨#[0xb1]⟩ 1 none ∈ ab_tb := ab_tb_at 130 (by decide +kernel) (by decide +kernel)
theorem pf_X10_7 : Cond.fieldLink RX10 7 (TX10 3).1 (TX10 3).2.1 (TX10 3).2.2.1 ∈ ab_tb := ab_tb_at 155 (by decide +kernel) (by decide +kernel)
theorem lk_X10_7 : ab_lkF RX10 7 10 3 false .int := ⟨RX10, TX10, 4, tyX10, rfl, by decide, fi_X10, tyX10_ok, nmX10, rfl, rfl, Or.inl pf_X10_7⟩
theorem pm_X10_13 : Cond.methodLink RX10 13 Lib.Math.max.name ∈ ab_tb := ab_tb_at 149 (by decide +kernel) (by decide +kernel)
theorem pq_max_s : Cond.static Lib.Math.max.name ∈ ab_tb := ab_tb_at 150 (by decide +kernel) (by decide +kernel)
theorem pq_ini : Cond.initialized "java/lang/Math" ∈ ab_tb := ab_tb_at 100 (by decide +kernel) (by decide +kernel)
theorem pq_max_c : Cond.code Lib.Math.max.name Lib.Math.max.code 2 (some .int) ∈ ab_tb := ab_tb_at 151 (by decide +kernel) (by decide +kernel)
theorem pf_X10_19 : Cond.fieldLink RX10 19 (TX10 0).1 (TX10 0).2.1 (TX10 0).2.2.1 ∈ ab_tb := ab_tb_at 152 (by decide +kernel) (by decide +kernel)
theorem lk_X10_19 : ab_lkF RX10 19 10 0 true .int := ⟨RX10, TX10, 4, tyX10, rfl, by decide, fi_X10, tyX10_ok, nmX10, rfl, rfl, Or.inl pf_X10_19⟩
theorem pf_X10_22 : Cond.fieldLink RX10 22 (TX10 1).1 (TX10 1).2.1 (TX10 1).2.2.1 ∈ ab_tb := ab_tb_at 153 (by decide +kernel) (by decide +kernel)
theorem lk_X10_22 : ab_lkF RX10 22 10 1 true .int := ⟨RX10, TX10, 4, tyX10, rfl, by decide, fi_X10, tyX10_ok, nmX10, rfl, rfl, Or.inl pf_X10_22⟩
theorem pf_X10_25 : Cond.fieldLink RX10 25 (TX10 2).1 (TX10 2).2.1 (TX10 2).2.2.1 ∈ ab_tb := ab_tb_at 154 (by decide +kernel) (by decide +kernel)
theorem lk_X10_25 : ab_lkF RX10 25 10 2 true (.array .int) := ⟨RX10, TX10, 4, tyX10, rfl, by decide, fi_X10, tyX10_ok, nmX10, rfl, rfl, Or.inl pf_X10_25⟩
theorem pm_X0_3 : Cond.methodLink RX0 3 Lib.objectInit ∈ ab_tb := ab_tb_at 363 (by decide +kernel) (by decide +kernel)
theorem nw_X0_9 : ab_lkN RX0 9 10 [none, none, some none, none] := ⟨RX10, TX10, 4, tyX10, rfl, fi_X10, tyX10_ok, ab_tb_at 364 (by decide +kernel) (by decide +kernel), ab_tb_at 144 (by decide +kernel) (by decide +kernel), ab_tb_at 99 (by decide +kernel) (by decide +kernel), rfl, by decide +kernel⟩
theorem pm_X0_11 : Cond.methodLink RX0 11 yX10_init ∈ ab_tb := ab_tb_at 365 (by decide +kernel) (by decide +kernel)
theorem mf_X10_init : ab_mfI yX10_init cX10_init 3 2 := ⟨ab_tb_at 146 (by decide +kernel) (by decide +kernel), ab_tb_at 99 (by decide +kernel) (by decide +kernel), ab_tb_at 147 (by decide +kernel) (by decide +kernel), by decide +kernel, by decide, rfl⟩
theorem pf_X0_14 : Cond.fieldLink RX0 14 (TX0 0).1 (TX0 0).2.1 (TX0 0).2.2.1 ∈ ab_tb := ab_tb_at 366 (by decide +kernel) (by decide +kernel)
theorem lk_X0_14 : ab_lkF RX0 14 0 0 true (.object "CloudMarket$Table") := ⟨RX0, TX0, 2, tyX0, rfl, by decide, fi_X0, tyX0_ok, nmX0, rfl, rfl, Or.inl pf_X0_14⟩
theorem pf_X0_20 : Cond.fieldLink RX0 20 (TX0 1).1 (TX0 1).2.1 (TX0 1).2.2.1 ∈ ab_tb := ab_tb_at 368 (by decide +kernel) (by decide +kernel)
theorem lk_X0_20 : ab_lkF RX0 20 0 1 true (.object "CloudMarket$Table") := ⟨RX0, TX0, 2, tyX0, rfl, by decide, fi_X0, tyX0_ok, nmX0, rfl, rfl, Or.inl pf_X0_20⟩
theorem pm_X10_43 : Cond.methodLink RX10 43 yJ7_fill_53178 ∈ ab_tb := ab_tb_at 198 (by decide +kernel) (by decide +kernel)
theorem mf_J7_fill_53178 : ab_mfS yJ7_fill_53178 cJ7_fill_53178 4 none 2 := ⟨ab_tb_at 199 (by decide +kernel) (by decide +kernel), ab_tb_at 102 (by decide +kernel) (by decide +kernel), ab_tb_at 200 (by decide +kernel) (by decide +kernel), by decide +kernel, by decide⟩
theorem pf_X1_26 : Cond.fieldLink RX1 26 (TX1 3).1 (TX1 3).2.1 (TX1 3).2.2.1 ∈ ab_tb := ab_tb_at 231 (by decide +kernel) (by decide +kernel)
theorem lk_X1_26 : ab_lkF RX1 26 1 3 true (.object "CloudMarket$Table") := ⟨RX1, TX1, 6, tyX1, rfl, by decide, fi_X1, tyX1_ok, nmX1, rfl, rfl, Or.inl pf_X1_26⟩
theorem pm_X1_61 : Cond.methodLink RX1 61 yX10_get ∈ ab_tb := ab_tb_at 862 (by decide +kernel) (by decide +kernel)
theorem mf_X10_get : ab_mfV yX10_get cX10_get 4 (some .int) 2 := ⟨ab_tb_at 517 (by decide +kernel) (by decide +kernel), ab_tb_at 518 (by decide +kernel) (by decide +kernel), ab_tb_at 99 (by decide +kernel) (by decide +kernel), ab_tb_at 519 (by decide +kernel) (by decide +kernel), by decide +kernel, by decide⟩
theorem pf_X1_20 : Cond.fieldLink RX1 20 (TX1 1).1 (TX1 1).2.1 (TX1 1).2.2.1 ∈ ab_tb := ab_tb_at 219 (by decide +kernel) (by decide +kernel)
theorem lk_X1_20 : ab_lkF RX1 20 1 1 true (.object "CloudMarket$Table") := ⟨RX1, TX1, 6, tyX1, rfl, by decide, fi_X1, tyX1_ok, nmX1, rfl, rfl, Or.inl pf_X1_20⟩
theorem pm_X10_29 : Cond.methodLink RX10 29 yX10_get ∈ ab_tb := ab_tb_at 516 (by decide +kernel) (by decide +kernel)
theorem pm_X10_32 : Cond.methodLink RX10 32 yX10_set ∈ ab_tb := ab_tb_at 1023 (by decide +kernel) (by decide +kernel)
theorem mf_X10_set : ab_mfV yX10_set cX10_set 5 none 3 := ⟨ab_tb_at 202 (by decide +kernel) (by decide +kernel), ab_tb_at 203 (by decide +kernel) (by decide +kernel), ab_tb_at 99 (by decide +kernel) (by decide +kernel), ab_tb_at 204 (by decide +kernel) (by decide +kernel), by decide +kernel, by decide⟩
theorem pf_X8_15 : Cond.fieldLink RX8 15 (TX8 1).1 (TX8 1).2.1 (TX8 1).2.2.1 ∈ ab_tb := ab_tb_at 301 (by decide +kernel) (by decide +kernel)
theorem lk_X8_15 : ab_lkF RX8 15 8 1 false .int := ⟨RX8, TX8, 7, tyX8, rfl, by decide, fi_X8, tyX8_ok, nmX8, rfl, rfl, Or.inl pf_X8_15⟩
theorem lk_X0_67 : ab_lkF RX0 67 8 2 true (.object "CloudMarket$Table") := ⟨RX8, TX8, 7, tyX8, rfl, by decide, fi_X8, tyX8_ok, nmX8, rfl, rfl, Or.inr ⟨"CloudMarket", List.mem_of_getElem? (i := 306) (by decide +kernel)⟩⟩
theorem pm_X0_44 : Cond.methodLink RX0 44 yX10_get ∈ ab_tb := ab_tb_at 1014 (by decide +kernel) (by decide +kernel)
theorem lk_X0_73 : ab_lkF RX0 73 1 1 true (.object "CloudMarket$Table") := ⟨RX1, TX1, 6, tyX1, rfl, by decide, fi_X1, tyX1_ok, nmX1, rfl, rfl, Or.inr ⟨"CloudMarket", List.mem_of_getElem? (i := 223) (by decide +kernel)⟩⟩
theorem pm_X0_52 : Cond.methodLink RX0 52 yX10_add ∈ ab_tb := ab_tb_at 1019 (by decide +kernel) (by decide +kernel)
theorem mf_X10_add : ab_mfV yX10_add cX10_add 4 none 3 := ⟨ab_tb_at 1020 (by decide +kernel) (by decide +kernel), ab_tb_at 1021 (by decide +kernel) (by decide +kernel), ab_tb_at 99 (by decide +kernel) (by decide +kernel), ab_tb_at 1022 (by decide +kernel) (by decide +kernel), by decide +kernel, by decide⟩
theorem lk_X0_70 : ab_lkF RX0 70 8 4 true (.object "CloudMarket$Table") := ⟨RX8, TX8, 7, tyX8, rfl, by decide, fi_X8, tyX8_ok, nmX8, rfl, rfl, Or.inr ⟨"CloudMarket", List.mem_of_getElem? (i := 311) (by decide +kernel)⟩⟩
theorem pm_X0_56 : Cond.methodLink RX0 56 yX8_runs ∈ ab_tb := ab_tb_at 1024 (by decide +kernel) (by decide +kernel)
theorem mf_X8_runs : ab_mfV yX8_runs cX8_runs 2 (some .boolean) 1 := ⟨ab_tb_at 554 (by decide +kernel) (by decide +kernel), ab_tb_at 555 (by decide +kernel) (by decide +kernel), ab_tb_at 103 (by decide +kernel) (by decide +kernel), ab_tb_at 556 (by decide +kernel) (by decide +kernel), by decide +kernel, by decide⟩
theorem pm_X0_60 : Cond.methodLink RX0 60 yX0_addInstance ∈ ab_tb := ab_tb_at 1025 (by decide +kernel) (by decide +kernel)
theorem mf_X0_addInstance : ab_mfV yX0_addInstance cX0_addInstance 6 none 3 := ⟨ab_tb_at 1027 (by decide +kernel) (by decide +kernel), ab_tb_at 24 (by decide +kernel) (by decide +kernel), ab_tb_at 105 (by decide +kernel) (by decide +kernel), ab_tb_at 1028 (by decide +kernel) (by decide +kernel), by decide +kernel, by decide⟩
theorem lk_X0_26 : ab_lkF RX0 26 1 3 true (.object "CloudMarket$Table") := ⟨RX1, TX1, 6, tyX1, rfl, by decide, fi_X1, tyX1_ok, nmX1, rfl, rfl, Or.inr ⟨"CloudMarket", List.mem_of_getElem? (i := 232) (by decide +kernel)⟩⟩
theorem lk_X0_31 : ab_lkF RX0 31 10 3 false .int := ⟨RX10, TX10, 4, tyX10, rfl, by decide, fi_X10, tyX10_ok, nmX10, rfl, rfl, Or.inr ⟨"CloudMarket", List.mem_of_getElem? (i := 156) (by decide +kernel)⟩⟩
theorem lk_X0_35 : ab_lkF RX0 35 8 0 false .int := ⟨RX8, TX8, 7, tyX8, rfl, by decide, fi_X8, tyX8_ok, nmX8, rfl, rfl, Or.inr ⟨"CloudMarket", List.mem_of_getElem? (i := 299) (by decide +kernel)⟩⟩
theorem pm_X0_40 : Cond.methodLink RX0 40 yX1_isActive ∈ ab_tb := ab_tb_at 1010 (by decide +kernel) (by decide +kernel)
theorem mf_X1_isActive : ab_mfV yX1_isActive cX1_isActive 3 (some .boolean) 2 := ⟨ab_tb_at 1011 (by decide +kernel) (by decide +kernel), ab_tb_at 1012 (by decide +kernel) (by decide +kernel), ab_tb_at 98 (by decide +kernel) (by decide +kernel), ab_tb_at 1013 (by decide +kernel) (by decide +kernel), by decide +kernel, by decide⟩
theorem pm_X0_48 : Cond.methodLink RX0 48 yX1_payment ∈ ab_tb := ab_tb_at 1015 (by decide +kernel) (by decide +kernel)
theorem mf_X1_payment : ab_mfV yX1_payment cX1_payment 4 (some .int) 1 := ⟨ab_tb_at 1016 (by decide +kernel) (by decide +kernel), ab_tb_at 1017 (by decide +kernel) (by decide +kernel), ab_tb_at 98 (by decide +kernel) (by decide +kernel), ab_tb_at 1018 (by decide +kernel) (by decide +kernel), by decide +kernel, by decide⟩
theorem pm_X0_23 : Cond.methodLink RX0 23 yX10_clear ∈ ab_tb := ab_tb_at 1009 (by decide +kernel) (by decide +kernel)
theorem mf_X10_clear : ab_mfV yX10_clear cX10_clear 1 none 0 := ⟨ab_tb_at 195 (by decide +kernel) (by decide +kernel), ab_tb_at 196 (by decide +kernel) (by decide +kernel), ab_tb_at 99 (by decide +kernel) (by decide +kernel), ab_tb_at 197 (by decide +kernel) (by decide +kernel), by decide +kernel, by decide⟩
theorem pf_X8_36 : Cond.fieldLink RX8 36 (TX8 6).1 (TX8 6).2.1 (TX8 6).2.2.1 ∈ ab_tb := ab_tb_at 315 (by decide +kernel) (by decide +kernel)
theorem lk_X8_36 : ab_lkF RX8 36 8 6 true (.array .long) := ⟨RX8, TX8, 7, tyX8, rfl, by decide, fi_X8, tyX8_ok, nmX8, rfl, rfl, Or.inl pf_X8_36⟩
theorem pm_X0_64 : Cond.methodLink RX0 64 yX8_charge ∈ ab_tb := ab_tb_at 1244 (by decide +kernel) (by decide +kernel)
theorem mf_X8_charge : ab_mfV yX8_charge cX8_charge 3 none 2 := ⟨ab_tb_at 1245 (by decide +kernel) (by decide +kernel), ab_tb_at 1246 (by decide +kernel) (by decide +kernel), ab_tb_at 103 (by decide +kernel) (by decide +kernel), ab_tb_at 1247 (by decide +kernel) (by decide +kernel), by decide +kernel, by decide⟩
theorem pm_X9_3 : Cond.methodLink RX9 3 Lib.objectInit ∈ ab_tb := ab_tb_at 179 (by decide +kernel) (by decide +kernel)
theorem pf_X9_9 : Cond.fieldLink RX9 9 (TX9 0).1 (TX9 0).2.1 (TX9 0).2.2.1 ∈ ab_tb := ab_tb_at 180 (by decide +kernel) (by decide +kernel)
theorem lk_X9_9 : ab_lkF RX9 9 9 0 true (.array .int) := ⟨RX9, TX9, 3, tyX9, rfl, by decide, fi_X9, tyX9_ok, nmX9, rfl, rfl, Or.inl pf_X9_9⟩
theorem pf_X9_15 : Cond.fieldLink RX9 15 (TX9 1).1 (TX9 1).2.1 (TX9 1).2.2.1 ∈ ab_tb := ab_tb_at 181 (by decide +kernel) (by decide +kernel)
theorem lk_X9_15 : ab_lkF RX9 15 9 1 false .int := ⟨RX9, TX9, 3, tyX9, rfl, by decide, fi_X9, tyX9_ok, nmX9, rfl, rfl, Or.inl pf_X9_15⟩
theorem pf_X9_19 : Cond.fieldLink RX9 19 (TX9 2).1 (TX9 2).2.1 (TX9 2).2.2.1 ∈ ab_tb := ab_tb_at 182 (by decide +kernel) (by decide +kernel)
theorem lk_X9_19 : ab_lkF RX9 19 9 2 true (.array .int) := ⟨RX9, TX9, 3, tyX9, rfl, by decide, fi_X9, tyX9_ok, nmX9, rfl, rfl, Or.inl pf_X9_19⟩
theorem pf_X1_14 : Cond.fieldLink RX1 14 (TX1 0).1 (TX1 0).2.1 (TX1 0).2.2.1 ∈ ab_tb := ab_tb_at 213 (by decide +kernel) (by decide +kernel)
theorem lk_X1_14 : ab_lkF RX1 14 1 0 true (.object "CloudMarket$Table") := ⟨RX1, TX1, 6, tyX1, rfl, by decide, fi_X1, tyX1_ok, nmX1, rfl, rfl, Or.inl pf_X1_14⟩
theorem pm_X1_42 : Cond.methodLink RX1 42 yX10_clear ∈ ab_tb := ab_tb_at 194 (by decide +kernel) (by decide +kernel)
theorem pf_X1_23 : Cond.fieldLink RX1 23 (TX1 2).1 (TX1 2).2.1 (TX1 2).2.2.1 ∈ ab_tb := ab_tb_at 227 (by decide +kernel) (by decide +kernel)
theorem lk_X1_23 : ab_lkF RX1 23 1 2 true (.object "CloudMarket$Table") := ⟨RX1, TX1, 6, tyX1, rfl, by decide, fi_X1, tyX1_ok, nmX1, rfl, rfl, Or.inl pf_X1_23⟩
theorem pf_X1_29 : Cond.fieldLink RX1 29 (TX1 4).1 (TX1 4).2.1 (TX1 4).2.2.1 ∈ ab_tb := ab_tb_at 235 (by decide +kernel) (by decide +kernel)
theorem lk_X1_29 : ab_lkF RX1 29 1 4 true (.object "CloudMarket$Table") := ⟨RX1, TX1, 6, tyX1, rfl, by decide, fi_X1, tyX1_ok, nmX1, rfl, rfl, Or.inl pf_X1_29⟩
theorem pm_X1_45 : Cond.methodLink RX1 45 yX10_set ∈ ab_tb := ab_tb_at 201 (by decide +kernel) (by decide +kernel)
theorem pf_X1_35 : Cond.fieldLink RX1 35 (TX1 5).1 (TX1 5).2.1 (TX1 5).2.2.1 ∈ ab_tb := ab_tb_at 238 (by decide +kernel) (by decide +kernel)
theorem lk_X1_35 : ab_lkF RX1 35 1 5 true (.object "CloudMarket$Sum") := ⟨RX1, TX1, 6, tyX1, rfl, by decide, fi_X1, tyX1_ok, nmX1, rfl, rfl, Or.inl pf_X1_35⟩
theorem pm_X1_49 : Cond.methodLink RX1 49 yX9_clear ∈ ab_tb := ab_tb_at 205 (by decide +kernel) (by decide +kernel)
theorem mf_X9_clear : ab_mfV yX9_clear cX9_clear 1 none 0 := ⟨ab_tb_at 206 (by decide +kernel) (by decide +kernel), ab_tb_at 207 (by decide +kernel) (by decide +kernel), ab_tb_at 101 (by decide +kernel) (by decide +kernel), ab_tb_at 208 (by decide +kernel) (by decide +kernel), by decide +kernel, by decide⟩
theorem pm_X1_50 : Cond.methodLink RX1 50 yX9_add ∈ ab_tb := ab_tb_at 209 (by decide +kernel) (by decide +kernel)
theorem mf_X9_add : ab_mfV yX9_add cX9_add 2 none 1 := ⟨ab_tb_at 210 (by decide +kernel) (by decide +kernel), ab_tb_at 211 (by decide +kernel) (by decide +kernel), ab_tb_at 101 (by decide +kernel) (by decide +kernel), ab_tb_at 212 (by decide +kernel) (by decide +kernel), by decide +kernel, by decide⟩
theorem pm_X1_3 : Cond.methodLink RX1 3 Lib.objectInit ∈ ab_tb := ab_tb_at 142 (by decide +kernel) (by decide +kernel)
theorem nw_X1_9 : ab_lkN RX1 9 10 [none, none, some none, none] := ⟨RX10, TX10, 4, tyX10, rfl, fi_X10, tyX10_ok, ab_tb_at 143 (by decide +kernel) (by decide +kernel), ab_tb_at 144 (by decide +kernel) (by decide +kernel), ab_tb_at 99 (by decide +kernel) (by decide +kernel), rfl, by decide +kernel⟩
theorem pm_X1_11 : Cond.methodLink RX1 11 yX10_init ∈ ab_tb := ab_tb_at 145 (by decide +kernel) (by decide +kernel)
theorem nw_X1_32 : ab_lkN RX1 32 9 [some none, none, some none] := ⟨RX9, TX9, 3, tyX9, rfl, fi_X9, tyX9_ok, ab_tb_at 174 (by decide +kernel) (by decide +kernel), ab_tb_at 175 (by decide +kernel) (by decide +kernel), ab_tb_at 101 (by decide +kernel) (by decide +kernel), rfl, by decide +kernel⟩
theorem pn_X1_34 : ∃ host, Cond.methodLinkNest RX1 34 yX9_init host ∈ lw_tbl := ⟨"CloudMarket", List.mem_of_getElem? (i := 176) (by decide +kernel)⟩
theorem mf_X9_init : ab_mfI yX9_init cX9_init 1 0 := ⟨ab_tb_at 177 (by decide +kernel) (by decide +kernel), ab_tb_at 101 (by decide +kernel) (by decide +kernel), ab_tb_at 178 (by decide +kernel) (by decide +kernel), by decide +kernel, by decide, rfl⟩
theorem pm_X1_39 : Cond.methodLink RX1 39 yX1_reset ∈ ab_tb := ab_tb_at 190 (by decide +kernel) (by decide +kernel)
theorem mf_X1_reset : ab_mfV yX1_reset cX1_reset 1 none 0 := ⟨ab_tb_at 191 (by decide +kernel) (by decide +kernel), ab_tb_at 192 (by decide +kernel) (by decide +kernel), ab_tb_at 98 (by decide +kernel) (by decide +kernel), ab_tb_at 193 (by decide +kernel) (by decide +kernel), by decide +kernel, by decide⟩
theorem pm_X10_49 : Cond.methodLink RX10 49 Lib.Math.min.name ∈ ab_tb := ab_tb_at 604 (by decide +kernel) (by decide +kernel)
theorem pq_min_s : Cond.static Lib.Math.min.name ∈ ab_tb := ab_tb_at 579 (by decide +kernel) (by decide +kernel)
theorem pq_min_c : Cond.code Lib.Math.min.name Lib.Math.min.code 2 (some .int) ∈ ab_tb := ab_tb_at 580 (by decide +kernel) (by decide +kernel)
theorem pm_X10_52 : Cond.methodLink RX10 52 arraycopyName ∈ ab_tb := ab_tb_at 605 (by decide +kernel) (by decide +kernel)
theorem pr_n : Cond.native arraycopyName ∈ ab_tb := ab_tb_at 583 (by decide +kernel) (by decide +kernel)
theorem pr_s : Cond.static arraycopyName ∈ ab_tb := ab_tb_at 582 (by decide +kernel) (by decide +kernel)
theorem pr_i : Cond.initialized "java/lang/System" ∈ ab_tb := ab_tb_at 119 (by decide +kernel) (by decide +kernel)
theorem pm_X9_22 : Cond.methodLink RX9 22 Lib.Math.min.name ∈ ab_tb := ab_tb_at 842 (by decide +kernel) (by decide +kernel)
theorem pm_X9_28 : Cond.methodLink RX9 28 Lib.Math.max.name ∈ ab_tb := ab_tb_at 843 (by decide +kernel) (by decide +kernel)
theorem pm_X9_31 : Cond.methodLink RX9 31 arraycopyName ∈ ab_tb := ab_tb_at 844 (by decide +kernel) (by decide +kernel)
theorem pm_X1_54 : Cond.methodLink RX1 54 yX10_copyFrom ∈ ab_tb := ab_tb_at 837 (by decide +kernel) (by decide +kernel)
theorem mf_X10_copyFrom : ab_mfV yX10_copyFrom cX10_copyFrom 2 none 1 := ⟨ab_tb_at 601 (by decide +kernel) (by decide +kernel), ab_tb_at 602 (by decide +kernel) (by decide +kernel), ab_tb_at 99 (by decide +kernel) (by decide +kernel), ab_tb_at 603 (by decide +kernel) (by decide +kernel), by decide +kernel, by decide⟩
theorem pm_X1_58 : Cond.methodLink RX1 58 yX9_copyFrom ∈ ab_tb := ab_tb_at 838 (by decide +kernel) (by decide +kernel)
theorem mf_X9_copyFrom : ab_mfV yX9_copyFrom cX9_copyFrom 3 none 1 := ⟨ab_tb_at 839 (by decide +kernel) (by decide +kernel), ab_tb_at 840 (by decide +kernel) (by decide +kernel), ab_tb_at 101 (by decide +kernel) (by decide +kernel), ab_tb_at 841 (by decide +kernel) (by decide +kernel), by decide +kernel, by decide⟩
theorem pm_X1_65 : Cond.methodLink RX1 65 Lib.Math.min.name ∈ ab_tb := ab_tb_at 863 (by decide +kernel) (by decide +kernel)
theorem pm_X1_74 : Cond.methodLink RX1 74 yX1_isActive ∈ ab_tb := ab_tb_at 1044 (by decide +kernel) (by decide +kernel)
theorem lk_X1_70 : ab_lkF RX1 70 10 3 false .int := ⟨RX10, TX10, 4, tyX10, rfl, by decide, fi_X10, tyX10_ok, nmX10, rfl, rfl, Or.inr ⟨"CloudMarket", List.mem_of_getElem? (i := 161) (by decide +kernel)⟩⟩
theorem pm_X2_3 : Cond.methodLink RX2 3 Lib.objectInit ∈ ab_tb := ab_tb_at 444 (by decide +kernel) (by decide +kernel)
theorem pf_X2_9 : Cond.fieldLink RX2 9 (TX2 0).1 (TX2 0).2.1 (TX2 0).2.2.1 ∈ ab_tb := ab_tb_at 447 (by decide +kernel) (by decide +kernel)
theorem lk_X2_9 : ab_lkF RX2 9 2 0 true (.array .int) := ⟨RX2, TX2, 4, tyX2, rfl, by decide, fi_X2, tyX2_ok, nmX2, rfl, rfl, Or.inl pf_X2_9⟩
theorem pf_X2_15 : Cond.fieldLink RX2 15 (TX2 1).1 (TX2 1).2.1 (TX2 1).2.2.1 ∈ ab_tb := ab_tb_at 448 (by decide +kernel) (by decide +kernel)
theorem lk_X2_15 : ab_lkF RX2 15 2 1 true (.array .int) := ⟨RX2, TX2, 4, tyX2, rfl, by decide, fi_X2, tyX2_ok, nmX2, rfl, rfl, Or.inl pf_X2_15⟩
theorem pf_X2_18 : Cond.fieldLink RX2 18 (TX2 2).1 (TX2 2).2.1 (TX2 2).2.2.1 ∈ ab_tb := ab_tb_at 449 (by decide +kernel) (by decide +kernel)
theorem lk_X2_18 : ab_lkF RX2 18 2 2 false .int := ⟨RX2, TX2, 4, tyX2, rfl, by decide, fi_X2, tyX2_ok, nmX2, rfl, rfl, Or.inl pf_X2_18⟩
theorem nw_X2_22 : ab_lkN RX2 22 10 [none, none, some none, none] := ⟨RX10, TX10, 4, tyX10, rfl, fi_X10, tyX10_ok, ab_tb_at 445 (by decide +kernel) (by decide +kernel), ab_tb_at 144 (by decide +kernel) (by decide +kernel), ab_tb_at 99 (by decide +kernel) (by decide +kernel), rfl, by decide +kernel⟩
theorem pm_X2_24 : Cond.methodLink RX2 24 yX10_init ∈ ab_tb := ab_tb_at 446 (by decide +kernel) (by decide +kernel)
theorem pf_X2_27 : Cond.fieldLink RX2 27 (TX2 3).1 (TX2 3).2.1 (TX2 3).2.2.1 ∈ ab_tb := ab_tb_at 450 (by decide +kernel) (by decide +kernel)
theorem lk_X2_27 : ab_lkF RX2 27 2 3 true (.object "CloudMarket$Table") := ⟨RX2, TX2, 4, tyX2, rfl, by decide, fi_X2, tyX2_ok, nmX2, rfl, rfl, Or.inl pf_X2_27⟩
theorem lk_X8_93 : ab_lkF RX8 93 1 0 true (.object "CloudMarket$Table") := ⟨RX1, TX1, 6, tyX1, rfl, by decide, fi_X1, tyX1_ok, nmX1, rfl, rfl, Or.inr ⟨"CloudMarket", List.mem_of_getElem? (i := 218) (by decide +kernel)⟩⟩
theorem pm_X8_79 : Cond.methodLink RX8 79 yX10_get ∈ ab_tb := ab_tb_at 557 (by decide +kernel) (by decide +kernel)
theorem pf_X8_33 : Cond.fieldLink RX8 33 (TX8 5).1 (TX8 5).2.1 (TX8 5).2.2.1 ∈ ab_tb := ab_tb_at 313 (by decide +kernel) (by decide +kernel)
theorem lk_X8_33 : ab_lkF RX8 33 8 5 true (.object "CloudMarket$Table") := ⟨RX8, TX8, 7, tyX8, rfl, by decide, fi_X8, tyX8_ok, nmX8, rfl, rfl, Or.inl pf_X8_33⟩
theorem lk_X2_44 : ab_lkF RX2 44 1 0 true (.object "CloudMarket$Table") := ⟨RX1, TX1, 6, tyX1, rfl, by decide, fi_X1, tyX1_ok, nmX1, rfl, rfl, Or.inr ⟨"CloudMarket", List.mem_of_getElem? (i := 215) (by decide +kernel)⟩⟩
theorem lk_X2_49 : ab_lkF RX2 49 10 3 false .int := ⟨RX10, TX10, 4, tyX10, rfl, by decide, fi_X10, tyX10_ok, nmX10, rfl, rfl, Or.inr ⟨"CloudMarket", List.mem_of_getElem? (i := 158) (by decide +kernel)⟩⟩
theorem pm_X2_40 : Cond.methodLink RX2 40 yX10_get ∈ ab_tb := ab_tb_at 1151 (by decide +kernel) (by decide +kernel)
theorem pm_X2_70 : Cond.methodLink RX2 70 yX10_add ∈ ab_tb := ab_tb_at 1158 (by decide +kernel) (by decide +kernel)
theorem pm_X2_60 : Cond.methodLink RX2 60 yX2_place ∈ ab_tb := ab_tb_at 1154 (by decide +kernel) (by decide +kernel)
theorem mf_X2_place : ab_mfV yX2_place cX2_place 8 (some .boolean) 3 := ⟨ab_tb_at 1156 (by decide +kernel) (by decide +kernel), ab_tb_at 27 (by decide +kernel) (by decide +kernel), ab_tb_at 109 (by decide +kernel) (by decide +kernel), ab_tb_at 1157 (by decide +kernel) (by decide +kernel), by decide +kernel, by decide⟩
theorem lk_X2_37 : ab_lkF RX2 37 8 2 true (.object "CloudMarket$Table") := ⟨RX8, TX8, 7, tyX8, rfl, by decide, fi_X8, tyX8_ok, nmX8, rfl, rfl, Or.inr ⟨"CloudMarket", List.mem_of_getElem? (i := 304) (by decide +kernel)⟩⟩
theorem lk_X2_67 : ab_lkF RX2 67 1 1 true (.object "CloudMarket$Table") := ⟨RX1, TX1, 6, tyX1, rfl, by decide, fi_X1, tyX1_ok, nmX1, rfl, rfl, Or.inr ⟨"CloudMarket", List.mem_of_getElem? (i := 224) (by decide +kernel)⟩⟩
theorem pm_X2_56 : Cond.methodLink RX2 56 yX10_set ∈ ab_tb := ab_tb_at 1153 (by decide +kernel) (by decide +kernel)
theorem pm_X2_52 : Cond.methodLink RX2 52 yX8_left ∈ ab_tb := ab_tb_at 1152 (by decide +kernel) (by decide +kernel)
theorem mf_X8_left : ab_mfV yX8_left cX8_left 4 (some .int) 3 := ⟨ab_tb_at 898 (by decide +kernel) (by decide +kernel), ab_tb_at 899 (by decide +kernel) (by decide +kernel), ab_tb_at 103 (by decide +kernel) (by decide +kernel), ab_tb_at 900 (by decide +kernel) (by decide +kernel), by decide +kernel, by decide⟩
theorem pm_X2_31 : Cond.methodLink RX2 31 yX8_runs ∈ ab_tb := ab_tb_at 1150 (by decide +kernel) (by decide +kernel)
theorem pm_X9_45 : Cond.methodLink RX9 45 yX10_get ∈ ab_tb := ab_tb_at 1118 (by decide +kernel) (by decide +kernel)
theorem pm_X9_41 : Cond.methodLink RX9 41 yX9_operand ∈ ab_tb := ab_tb_at 1115 (by decide +kernel) (by decide +kernel)
theorem mf_X9_operand : ab_mfS yX9_operand cX9_operand 4 (some .int) 4 := ⟨ab_tb_at 1116 (by decide +kernel) (by decide +kernel), ab_tb_at 101 (by decide +kernel) (by decide +kernel), ab_tb_at 1117 (by decide +kernel) (by decide +kernel), by decide +kernel, by decide⟩
theorem pm_X9_37 : Cond.methodLink RX9 37 yX9_apply ∈ ab_tb := ab_tb_at 1112 (by decide +kernel) (by decide +kernel)
theorem mf_X9_apply : ab_mfS yX9_apply cX9_apply 3 (some .int) 3 := ⟨ab_tb_at 1113 (by decide +kernel) (by decide +kernel), ab_tb_at 101 (by decide +kernel) (by decide +kernel), ab_tb_at 1114 (by decide +kernel) (by decide +kernel), by decide +kernel, by decide⟩
theorem pf_X8_9 : Cond.fieldLink RX8 9 (TX8 0).1 (TX8 0).2.1 (TX8 0).2.2.1 ∈ ab_tb := ab_tb_at 298 (by decide +kernel) (by decide +kernel)
theorem lk_X8_9 : ab_lkF RX8 9 8 0 false .int := ⟨RX8, TX8, 7, tyX8, rfl, by decide, fi_X8, tyX8_ok, nmX8, rfl, rfl, Or.inl pf_X8_9⟩
theorem pf_X8_23 : Cond.fieldLink RX8 23 (TX8 2).1 (TX8 2).2.1 (TX8 2).2.2.1 ∈ ab_tb := ab_tb_at 303 (by decide +kernel) (by decide +kernel)
theorem lk_X8_23 : ab_lkF RX8 23 8 2 true (.object "CloudMarket$Table") := ⟨RX8, TX8, 7, tyX8, rfl, by decide, fi_X8, tyX8_ok, nmX8, rfl, rfl, Or.inl pf_X8_23⟩
theorem lk_X8_110 : ab_lkF RX8 110 1 5 true (.object "CloudMarket$Sum") := ⟨RX1, TX1, 6, tyX1, rfl, by decide, fi_X1, tyX1_ok, nmX1, rfl, rfl, Or.inr ⟨"CloudMarket", List.mem_of_getElem? (i := 240) (by decide +kernel)⟩⟩
theorem lk_X8_96 : ab_lkF RX8 96 1 1 true (.object "CloudMarket$Table") := ⟨RX1, TX1, 6, tyX1, rfl, by decide, fi_X1, tyX1_ok, nmX1, rfl, rfl, Or.inr ⟨"CloudMarket", List.mem_of_getElem? (i := 226) (by decide +kernel)⟩⟩
theorem pm_X8_114 : Cond.methodLink RX8 114 yX9_value ∈ ab_tb := ab_tb_at 1108 (by decide +kernel) (by decide +kernel)
theorem mf_X9_value : ab_mfV yX9_value cX9_value 7 (some .int) 3 := ⟨ab_tb_at 1109 (by decide +kernel) (by decide +kernel), ab_tb_at 1110 (by decide +kernel) (by decide +kernel), ab_tb_at 101 (by decide +kernel) (by decide +kernel), ab_tb_at 1111 (by decide +kernel) (by decide +kernel), by decide +kernel, by decide⟩
theorem pm_X8_120 : Cond.methodLink RX8 120 Lib.Math.max.name ∈ ab_tb := ab_tb_at 1119 (by decide +kernel) (by decide +kernel)
theorem pm_X8_185 : Cond.methodLink RX8 185 yX10_add ∈ ab_tb := ab_tb_at 1188 (by decide +kernel) (by decide +kernel)
theorem pm_X8_134 : Cond.methodLink RX8 134 yX8_moveCost ∈ ab_tb := ab_tb_at 1322 (by decide +kernel) (by decide +kernel)
theorem mf_X8_moveCost : ab_mfV yX8_moveCost cX8_moveCost 4 (some .int) 2 := ⟨ab_tb_at 1105 (by decide +kernel) (by decide +kernel), ab_tb_at 1106 (by decide +kernel) (by decide +kernel), ab_tb_at 103 (by decide +kernel) (by decide +kernel), ab_tb_at 1107 (by decide +kernel) (by decide +kernel), by decide +kernel, by decide⟩
theorem pm_X8_130 : Cond.methodLink RX8 130 yX8_load ∈ ab_tb := ab_tb_at 1184 (by decide +kernel) (by decide +kernel)
theorem mf_X8_load : ab_mfV yX8_load cX8_load 6 none 3 := ⟨ab_tb_at 1186 (by decide +kernel) (by decide +kernel), ab_tb_at 29 (by decide +kernel) (by decide +kernel), ab_tb_at 103 (by decide +kernel) (by decide +kernel), ab_tb_at 1187 (by decide +kernel) (by decide +kernel), by decide +kernel, by decide⟩
theorem pm_X8_127 : Cond.methodLink RX8 127 yX10_set ∈ ab_tb := ab_tb_at 864 (by decide +kernel) (by decide +kernel)
theorem pm_X8_138 : Cond.methodLink RX8 138 yX8_charge ∈ ab_tb := ab_tb_at 1323 (by decide +kernel) (by decide +kernel)
theorem pm_X2_64 : Cond.methodLink RX2 64 yX8_moveTo ∈ ab_tb := ab_tb_at 1337 (by decide +kernel) (by decide +kernel)
theorem mf_X8_moveTo : ab_mfV yX8_moveTo cX8_moveTo 5 (some .int) 3 := ⟨ab_tb_at 1319 (by decide +kernel) (by decide +kernel), ab_tb_at 1320 (by decide +kernel) (by decide +kernel), ab_tb_at 103 (by decide +kernel) (by decide +kernel), ab_tb_at 1321 (by decide +kernel) (by decide +kernel), by decide +kernel, by decide⟩
theorem pm_X3_3 : Cond.methodLink RX3 3 Lib.objectInit ∈ ab_tb := ab_tb_at 425 (by decide +kernel) (by decide +kernel)
theorem pf_X3_9 : Cond.fieldLink RX3 9 (TX3 0).1 (TX3 0).2.1 (TX3 0).2.2.1 ∈ ab_tb := ab_tb_at 426 (by decide +kernel) (by decide +kernel)
theorem lk_X3_9 : ab_lkF RX3 9 3 0 true (.array .int) := ⟨RX3, TX3, 4, tyX3, rfl, by decide, fi_X3, tyX3_ok, nmX3, rfl, rfl, Or.inl pf_X3_9⟩
theorem pf_X3_15 : Cond.fieldLink RX3 15 (TX3 1).1 (TX3 1).2.1 (TX3 1).2.2.1 ∈ ab_tb := ab_tb_at 427 (by decide +kernel) (by decide +kernel)
theorem lk_X3_15 : ab_lkF RX3 15 3 1 false .int := ⟨RX3, TX3, 4, tyX3, rfl, by decide, fi_X3, tyX3_ok, nmX3, rfl, rfl, Or.inl pf_X3_15⟩
theorem pf_X3_19 : Cond.fieldLink RX3 19 (TX3 2).1 (TX3 2).2.1 (TX3 2).2.2.1 ∈ ab_tb := ab_tb_at 428 (by decide +kernel) (by decide +kernel)
theorem lk_X3_19 : ab_lkF RX3 19 3 2 false .int := ⟨RX3, TX3, 4, tyX3, rfl, by decide, fi_X3, tyX3_ok, nmX3, rfl, rfl, Or.inl pf_X3_19⟩
theorem pf_X3_22 : Cond.fieldLink RX3 22 (TX3 3).1 (TX3 3).2.1 (TX3 3).2.2.1 ∈ ab_tb := ab_tb_at 429 (by decide +kernel) (by decide +kernel)
theorem lk_X3_22 : ab_lkF RX3 22 3 3 false .int := ⟨RX3, TX3, 4, tyX3, rfl, by decide, fi_X3, tyX3_ok, nmX3, rfl, rfl, Or.inl pf_X3_22⟩
theorem pk_J6_265 : Cond.constant RJ6 265 1431655765 ∈ ab_tb := ab_tb_at 1094 (by decide +kernel) (by decide +kernel)
theorem pk_J6_266 : Cond.constant RJ6 266 858993459 ∈ ab_tb := ab_tb_at 1095 (by decide +kernel) (by decide +kernel)
theorem pk_J6_267 : Cond.constant RJ6 267 252645135 ∈ ab_tb := ab_tb_at 1096 (by decide +kernel) (by decide +kernel)
theorem pm_X3_59 : Cond.methodLink RX3 59 yJ6_bitCount_0f7a4 ∈ ab_tb := ab_tb_at 1091 (by decide +kernel) (by decide +kernel)
theorem mf_J6_bitCount_0f7a4 : ab_mfS yJ6_bitCount_0f7a4 cJ6_bitCount_0f7a4 1 (some .int) 1 := ⟨ab_tb_at 1092 (by decide +kernel) (by decide +kernel), ab_tb_at 121 (by decide +kernel) (by decide +kernel), ab_tb_at 1093 (by decide +kernel) (by decide +kernel), by decide +kernel, by decide⟩
theorem lk_X3_32 : ab_lkF RX3 32 8 2 true (.object "CloudMarket$Table") := ⟨RX8, TX8, 7, tyX8, rfl, by decide, fi_X8, tyX8_ok, nmX8, rfl, rfl, Or.inr ⟨"CloudMarket", List.mem_of_getElem? (i := 305) (by decide +kernel)⟩⟩
theorem pm_X3_36 : Cond.methodLink RX3 36 yX10_get ∈ ab_tb := ab_tb_at 1081 (by decide +kernel) (by decide +kernel)
theorem lk_X3_42 : ab_lkF RX3 42 1 1 true (.object "CloudMarket$Table") := ⟨RX1, TX1, 6, tyX1, rfl, by decide, fi_X1, tyX1_ok, nmX1, rfl, rfl, Or.inr ⟨"CloudMarket", List.mem_of_getElem? (i := 220) (by decide +kernel)⟩⟩
theorem pm_X3_51 : Cond.methodLink RX3 51 yX3_choose ∈ ab_tb := ab_tb_at 1083 (by decide +kernel) (by decide +kernel)
theorem mf_X3_choose : ab_mfV yX3_choose cX3_choose 10 none 7 := ⟨ab_tb_at 1085 (by decide +kernel) (by decide +kernel), ab_tb_at 25 (by decide +kernel) (by decide +kernel), ab_tb_at 108 (by decide +kernel) (by decide +kernel), ab_tb_at 1086 (by decide +kernel) (by decide +kernel), by decide +kernel, by decide⟩
theorem pm_X3_55 : Cond.methodLink RX3 55 yX3_keep ∈ ab_tb := ab_tb_at 1087 (by decide +kernel) (by decide +kernel)
theorem mf_X3_keep : ab_mfV yX3_keep cX3_keep 4 none 2 := ⟨ab_tb_at 1089 (by decide +kernel) (by decide +kernel), ab_tb_at 26 (by decide +kernel) (by decide +kernel), ab_tb_at 108 (by decide +kernel) (by decide +kernel), ab_tb_at 1090 (by decide +kernel) (by decide +kernel), by decide +kernel, by decide⟩
theorem pm_X3_47 : Cond.methodLink RX3 47 yX8_left ∈ ab_tb := ab_tb_at 1082 (by decide +kernel) (by decide +kernel)
theorem pm_X3_26 : Cond.methodLink RX3 26 yX8_runs ∈ ab_tb := ab_tb_at 1080 (by decide +kernel) (by decide +kernel)
theorem pk_X3_25 : Cond.constant RX3 25 119989 ∈ ab_tb := ab_tb_at 1079 (by decide +kernel) (by decide +kernel)
theorem pm_X8_3 : Cond.methodLink RX8 3 Lib.objectInit ∈ ab_tb := ab_tb_at 295 (by decide +kernel) (by decide +kernel)
theorem nw_X8_18 : ab_lkN RX8 18 10 [none, none, some none, none] := ⟨RX10, TX10, 4, tyX10, rfl, fi_X10, tyX10_ok, ab_tb_at 296 (by decide +kernel) (by decide +kernel), ab_tb_at 144 (by decide +kernel) (by decide +kernel), ab_tb_at 99 (by decide +kernel) (by decide +kernel), rfl, by decide +kernel⟩
theorem pm_X8_20 : Cond.methodLink RX8 20 yX10_init ∈ ab_tb := ab_tb_at 297 (by decide +kernel) (by decide +kernel)
theorem pf_X8_27 : Cond.fieldLink RX8 27 (TX8 3).1 (TX8 3).2.1 (TX8 3).2.2.1 ∈ ab_tb := ab_tb_at 308 (by decide +kernel) (by decide +kernel)
theorem lk_X8_27 : ab_lkF RX8 27 8 3 true (.object "CloudMarket$Table") := ⟨RX8, TX8, 7, tyX8, rfl, by decide, fi_X8, tyX8_ok, nmX8, rfl, rfl, Or.inl pf_X8_27⟩
theorem pf_X8_30 : Cond.fieldLink RX8 30 (TX8 4).1 (TX8 4).2.1 (TX8 4).2.2.1 ∈ ab_tb := ab_tb_at 310 (by decide +kernel) (by decide +kernel)
theorem lk_X8_30 : ab_lkF RX8 30 8 4 true (.object "CloudMarket$Table") := ⟨RX8, TX8, 7, tyX8, rfl, by decide, fi_X8, tyX8_ok, nmX8, rfl, rfl, Or.inl pf_X8_30⟩
theorem pf_X4_17 : Cond.fieldLink RX4 17 (TX4 1).1 (TX4 1).2.1 (TX4 1).2.2.1 ∈ ab_tb := ab_tb_at 342 (by decide +kernel) (by decide +kernel)
theorem lk_X4_17 : ab_lkF RX4 17 4 1 true (.array (.object "CloudMarket$Situation")) := ⟨RX4, TX4, 5, tyX4, rfl, by decide, fi_X4, tyX4_ok, nmX4, rfl, rfl, Or.inl pf_X4_17⟩
theorem nw_X4_9 : ab_lkN RX4 9 8 [none, none, some none, some none, some none, some none, some none] := ⟨RX8, TX8, 7, tyX8, rfl, fi_X8, tyX8_ok, ab_tb_at 338 (by decide +kernel) (by decide +kernel), ab_tb_at 291 (by decide +kernel) (by decide +kernel), ab_tb_at 103 (by decide +kernel) (by decide +kernel), rfl, by decide +kernel⟩
theorem pn_X4_30 : ∃ host, Cond.methodLinkNest RX4 30 yX8_init host ∈ lw_tbl := ⟨"CloudMarket", List.mem_of_getElem? (i := 340) (by decide +kernel)⟩
theorem mf_X8_init : ab_mfI yX8_init cX8_init 1 0 := ⟨ab_tb_at 293 (by decide +kernel) (by decide +kernel), ab_tb_at 103 (by decide +kernel) (by decide +kernel), ab_tb_at 294 (by decide +kernel) (by decide +kernel), by decide +kernel, by decide, rfl⟩
theorem pf_X4_11 : Cond.fieldLink RX4 11 (TX4 0).1 (TX4 0).2.1 (TX4 0).2.2.1 ∈ ab_tb := ab_tb_at 341 (by decide +kernel) (by decide +kernel)
theorem lk_X4_11 : ab_lkF RX4 11 4 0 true (.array (.object "CloudMarket$Situation")) := ⟨RX4, TX4, 5, tyX4, rfl, by decide, fi_X4, tyX4_ok, nmX4, rfl, rfl, Or.inl pf_X4_11⟩
theorem pm_X4_3 : Cond.methodLink RX4 3 Lib.objectInit ∈ ab_tb := ab_tb_at 337 (by decide +kernel) (by decide +kernel)
theorem pc_X4_9 : Cond.classLink RX4 9 "CloudMarket$Situation" ∈ ab_tb := ab_tb_at 338 (by decide +kernel) (by decide +kernel)
theorem pf_X4_20 : Cond.fieldLink RX4 20 (TX4 2).1 (TX4 2).2.1 (TX4 2).2.2.1 ∈ ab_tb := ab_tb_at 343 (by decide +kernel) (by decide +kernel)
theorem lk_X4_20 : ab_lkF RX4 20 4 2 false .int := ⟨RX4, TX4, 5, tyX4, rfl, by decide, fi_X4, tyX4_ok, nmX4, rfl, rfl, Or.inl pf_X4_20⟩
theorem pf_X4_24 : Cond.fieldLink RX4 24 (TX4 3).1 (TX4 3).2.1 (TX4 3).2.2.1 ∈ ab_tb := ab_tb_at 345 (by decide +kernel) (by decide +kernel)
theorem lk_X4_24 : ab_lkF RX4 24 4 3 false .int := ⟨RX4, TX4, 5, tyX4, rfl, by decide, fi_X4, tyX4_ok, nmX4, rfl, rfl, Or.inl pf_X4_24⟩
theorem pf_X4_27 : Cond.fieldLink RX4 27 (TX4 4).1 (TX4 4).2.1 (TX4 4).2.2.1 ∈ ab_tb := ab_tb_at 346 (by decide +kernel) (by decide +kernel)
theorem lk_X4_27 : ab_lkF RX4 27 4 4 false .int := ⟨RX4, TX4, 5, tyX4, rfl, by decide, fi_X4, tyX4_ok, nmX4, rfl, rfl, Or.inl pf_X4_27⟩
theorem pm_X8_53 : Cond.methodLink RX8 53 yX10_copyFrom ∈ ab_tb := ab_tb_at 600 (by decide +kernel) (by decide +kernel)
theorem pm_X8_57 : Cond.methodLink RX8 57 Lib.Math.min.name ∈ ab_tb := ab_tb_at 606 (by decide +kernel) (by decide +kernel)
theorem pm_X8_63 : Cond.methodLink RX8 63 arraycopyName ∈ ab_tb := ab_tb_at 607 (by decide +kernel) (by decide +kernel)
theorem pm_X4_35 : Cond.methodLink RX4 35 Lib.Math.min.name ∈ ab_tb := ab_tb_at 1239 (by decide +kernel) (by decide +kernel)
theorem pm_X4_31 : Cond.methodLink RX4 31 yX8_copyFrom ∈ ab_tb := ab_tb_at 596 (by decide +kernel) (by decide +kernel)
theorem mf_X8_copyFrom : ab_mfV yX8_copyFrom cX8_copyFrom 2 none 1 := ⟨ab_tb_at 597 (by decide +kernel) (by decide +kernel), ab_tb_at 598 (by decide +kernel) (by decide +kernel), ab_tb_at 103 (by decide +kernel) (by decide +kernel), ab_tb_at 599 (by decide +kernel) (by decide +kernel), by decide +kernel, by decide⟩
theorem pm_X4_41 : Cond.methodLink RX4 41 yX4_isSaved ∈ ab_tb := ab_tb_at 1370 (by decide +kernel) (by decide +kernel)
theorem mf_X4_isSaved : ab_mfV yX4_isSaved cX4_isSaved 2 (some .boolean) 1 := ⟨ab_tb_at 1351 (by decide +kernel) (by decide +kernel), ab_tb_at 1352 (by decide +kernel) (by decide +kernel), ab_tb_at 104 (by decide +kernel) (by decide +kernel), ab_tb_at 1353 (by decide +kernel) (by decide +kernel), by decide +kernel, by decide⟩
theorem pm_X5_3 : Cond.methodLink RX5 3 Lib.objectInit ∈ ab_tb := ab_tb_at 387 (by decide +kernel) (by decide +kernel)
theorem pf_X5_9 : Cond.fieldLink RX5 9 (TX5 0).1 (TX5 0).2.1 (TX5 0).2.2.1 ∈ ab_tb := ab_tb_at 388 (by decide +kernel) (by decide +kernel)
theorem lk_X5_9 : ab_lkF RX5 9 5 0 true (.array .int) := ⟨RX5, TX5, 3, tyX5, rfl, by decide, fi_X5, tyX5_ok, nmX5, rfl, rfl, Or.inl pf_X5_9⟩
theorem pf_X5_15 : Cond.fieldLink RX5 15 (TX5 1).1 (TX5 1).2.1 (TX5 1).2.2.1 ∈ ab_tb := ab_tb_at 390 (by decide +kernel) (by decide +kernel)
theorem lk_X5_15 : ab_lkF RX5 15 5 1 true (.array .int) := ⟨RX5, TX5, 3, tyX5, rfl, by decide, fi_X5, tyX5_ok, nmX5, rfl, rfl, Or.inl pf_X5_15⟩
theorem pf_X5_18 : Cond.fieldLink RX5 18 (TX5 2).1 (TX5 2).2.1 (TX5 2).2.2.1 ∈ ab_tb := ab_tb_at 392 (by decide +kernel) (by decide +kernel)
theorem lk_X5_18 : ab_lkF RX5 18 5 2 false .int := ⟨RX5, TX5, 3, tyX5, rfl, by decide, fi_X5, tyX5_ok, nmX5, rfl, rfl, Or.inl pf_X5_18⟩
theorem pm_X5_22 : Cond.methodLink RX5 22 yJ7_fill_53178 ∈ ab_tb := ab_tb_at 566 (by decide +kernel) (by decide +kernel)
theorem pm_X6_3 : Cond.methodLink RX6 3 Lib.objectInit ∈ ab_tb := ab_tb_at 379 (by decide +kernel) (by decide +kernel)
theorem pf_X6_11 : Cond.fieldLink RX6 11 (TX6 0).1 (TX6 0).2.1 (TX6 0).2.2.1 ∈ ab_tb := ab_tb_at 401 (by decide +kernel) (by decide +kernel)
theorem lk_X6_11 : ab_lkF RX6 11 6 0 true (.array .int) := ⟨RX6, TX6, 6, tyX6, rfl, by decide, fi_X6, tyX6_ok, nmX6, rfl, rfl, Or.inl pf_X6_11⟩
theorem pf_X6_15 : Cond.fieldLink RX6 15 (TX6 1).1 (TX6 1).2.1 (TX6 1).2.2.1 ∈ ab_tb := ab_tb_at 402 (by decide +kernel) (by decide +kernel)
theorem lk_X6_15 : ab_lkF RX6 15 6 1 true (.array .int) := ⟨RX6, TX6, 6, tyX6, rfl, by decide, fi_X6, tyX6_ok, nmX6, rfl, rfl, Or.inl pf_X6_15⟩
theorem nw_X6_18 : ab_lkN RX6 18 10 [none, none, some none, none] := ⟨RX10, TX10, 4, tyX10, rfl, fi_X10, tyX10_ok, ab_tb_at 380 (by decide +kernel) (by decide +kernel), ab_tb_at 144 (by decide +kernel) (by decide +kernel), ab_tb_at 99 (by decide +kernel) (by decide +kernel), rfl, by decide +kernel⟩
theorem pm_X6_20 : Cond.methodLink RX6 20 yX10_init ∈ ab_tb := ab_tb_at 381 (by decide +kernel) (by decide +kernel)
theorem pf_X6_23 : Cond.fieldLink RX6 23 (TX6 2).1 (TX6 2).2.1 (TX6 2).2.2.1 ∈ ab_tb := ab_tb_at 403 (by decide +kernel) (by decide +kernel)
theorem lk_X6_23 : ab_lkF RX6 23 6 2 true (.object "CloudMarket$Table") := ⟨RX6, TX6, 6, tyX6, rfl, by decide, fi_X6, tyX6_ok, nmX6, rfl, rfl, Or.inl pf_X6_23⟩
theorem pf_X6_27 : Cond.fieldLink RX6 27 (TX6 3).1 (TX6 3).2.1 (TX6 3).2.2.1 ∈ ab_tb := ab_tb_at 404 (by decide +kernel) (by decide +kernel)
theorem lk_X6_27 : ab_lkF RX6 27 6 3 true (.array .int) := ⟨RX6, TX6, 6, tyX6, rfl, by decide, fi_X6, tyX6_ok, nmX6, rfl, rfl, Or.inl pf_X6_27⟩
theorem nw_X6_30 : ab_lkN RX6 30 5 [some none, some none, none] := ⟨RX5, TX5, 3, tyX5, rfl, fi_X5, tyX5_ok, ab_tb_at 382 (by decide +kernel) (by decide +kernel), ab_tb_at 383 (by decide +kernel) (by decide +kernel), ab_tb_at 107 (by decide +kernel) (by decide +kernel), rfl, by decide +kernel⟩
theorem pn_X6_32 : ∃ host, Cond.methodLinkNest RX6 32 yX5_init host ∈ lw_tbl := ⟨"CloudMarket", List.mem_of_getElem? (i := 384) (by decide +kernel)⟩
theorem mf_X5_init : ab_mfI yX5_init cX5_init 1 0 := ⟨ab_tb_at 385 (by decide +kernel) (by decide +kernel), ab_tb_at 107 (by decide +kernel) (by decide +kernel), ab_tb_at 386 (by decide +kernel) (by decide +kernel), by decide +kernel, by decide, rfl⟩
theorem pf_X6_33 : Cond.fieldLink RX6 33 (TX6 4).1 (TX6 4).2.1 (TX6 4).2.2.1 ∈ ab_tb := ab_tb_at 405 (by decide +kernel) (by decide +kernel)
theorem lk_X6_33 : ab_lkF RX6 33 6 4 true (.object "CloudMarket$Odometer") := ⟨RX6, TX6, 6, tyX6, rfl, by decide, fi_X6, tyX6_ok, nmX6, rfl, rfl, Or.inl pf_X6_33⟩
theorem pf_X6_37 : Cond.fieldLink RX6 37 (TX6 5).1 (TX6 5).2.1 (TX6 5).2.2.1 ∈ ab_tb := ab_tb_at 406 (by decide +kernel) (by decide +kernel)
theorem lk_X6_37 : ab_lkF RX6 37 6 5 true (.object "CloudMarket$Odometer") := ⟨RX6, TX6, 6, tyX6, rfl, by decide, fi_X6, tyX6_ok, nmX6, rfl, rfl, Or.inl pf_X6_37⟩
theorem pm_X8_75 : Cond.methodLink RX8 75 yX8_runs ∈ ab_tb := ab_tb_at 553 (by decide +kernel) (by decide +kernel)
theorem lk_X6_92 : ab_lkF RX6 92 5 1 true (.array .int) := ⟨RX5, TX5, 3, tyX5, rfl, by decide, fi_X5, tyX5_ok, nmX5, rfl, rfl, Or.inr ⟨"CloudMarket", List.mem_of_getElem? (i := 391) (by decide +kernel)⟩⟩
theorem pm_X6_95 : Cond.methodLink RX6 95 yX8_manyOf ∈ ab_tb := ab_tb_at 549 (by decide +kernel) (by decide +kernel)
theorem mf_X8_manyOf : ab_mfV yX8_manyOf cX8_manyOf 4 (some .int) 1 := ⟨ab_tb_at 550 (by decide +kernel) (by decide +kernel), ab_tb_at 551 (by decide +kernel) (by decide +kernel), ab_tb_at 103 (by decide +kernel) (by decide +kernel), ab_tb_at 552 (by decide +kernel) (by decide +kernel), by decide +kernel, by decide⟩
theorem lk_X6_99 : ab_lkF RX6 99 5 0 true (.array .int) := ⟨RX5, TX5, 3, tyX5, rfl, by decide, fi_X5, tyX5_ok, nmX5, rfl, rfl, Or.inr ⟨"CloudMarket", List.mem_of_getElem? (i := 389) (by decide +kernel)⟩⟩
theorem lk_X6_108 : ab_lkF RX6 108 5 2 false .int := ⟨RX5, TX5, 3, tyX5, rfl, by decide, fi_X5, tyX5_ok, nmX5, rfl, rfl, Or.inr ⟨"CloudMarket", List.mem_of_getElem? (i := 393) (by decide +kernel)⟩⟩
theorem pm_X6_111 : Cond.methodLink RX6 111 yX10_set ∈ ab_tb := ab_tb_at 568 (by decide +kernel) (by decide +kernel)
theorem pm_X6_88 : Cond.methodLink RX6 88 yX5_step ∈ ab_tb := ab_tb_at 569 (by decide +kernel) (by decide +kernel)
theorem mf_X5_step : ab_mfV yX5_step cX5_step 3 (some .boolean) 1 := ⟨ab_tb_at 570 (by decide +kernel) (by decide +kernel), ab_tb_at 571 (by decide +kernel) (by decide +kernel), ab_tb_at 107 (by decide +kernel) (by decide +kernel), ab_tb_at 572 (by decide +kernel) (by decide +kernel), by decide +kernel, by decide⟩
theorem lk_X6_102 : ab_lkF RX6 102 1 1 true (.object "CloudMarket$Table") := ⟨RX1, TX1, 6, tyX1, rfl, by decide, fi_X1, tyX1_ok, nmX1, rfl, rfl, Or.inr ⟨"CloudMarket", List.mem_of_getElem? (i := 221) (by decide +kernel)⟩⟩
theorem pm_X6_105 : Cond.methodLink RX6 105 yX10_get ∈ ab_tb := ab_tb_at 567 (by decide +kernel) (by decide +kernel)
theorem pm_X6_81 : Cond.methodLink RX6 81 yX5_restart ∈ ab_tb := ab_tb_at 562 (by decide +kernel) (by decide +kernel)
theorem mf_X5_restart : ab_mfV yX5_restart cX5_restart 1 none 0 := ⟨ab_tb_at 563 (by decide +kernel) (by decide +kernel), ab_tb_at 564 (by decide +kernel) (by decide +kernel), ab_tb_at 107 (by decide +kernel) (by decide +kernel), ab_tb_at 565 (by decide +kernel) (by decide +kernel), by decide +kernel, by decide⟩
theorem pm_X6_69 : Cond.methodLink RX6 69 Lib.Math.min.name ∈ ab_tb := ab_tb_at 578 (by decide +kernel) (by decide +kernel)
theorem lk_X6_60 : ab_lkF RX6 60 1 0 true (.object "CloudMarket$Table") := ⟨RX1, TX1, 6, tyX1, rfl, by decide, fi_X1, tyX1_ok, nmX1, rfl, rfl, Or.inr ⟨"CloudMarket", List.mem_of_getElem? (i := 214) (by decide +kernel)⟩⟩
theorem pm_X6_84 : Cond.methodLink RX6 84 yX6_addHost ∈ ab_tb := ab_tb_at 584 (by decide +kernel) (by decide +kernel)
theorem mf_X6_addHost : ab_mfV yX6_addHost cX6_addHost 11 none 3 := ⟨ab_tb_at 586 (by decide +kernel) (by decide +kernel), ab_tb_at 2 (by decide +kernel) (by decide +kernel), ab_tb_at 106 (by decide +kernel) (by decide +kernel), ab_tb_at 587 (by decide +kernel) (by decide +kernel), by decide +kernel, by decide⟩
theorem lk_X6_65 : ab_lkF RX6 65 10 3 false .int := ⟨RX10, TX10, 4, tyX10, rfl, by decide, fi_X10, tyX10_ok, nmX10, rfl, rfl, Or.inr ⟨"CloudMarket", List.mem_of_getElem? (i := 157) (by decide +kernel)⟩⟩
theorem pm_X6_75 : Cond.methodLink RX6 75 arraycopyName ∈ ab_tb := ab_tb_at 581 (by decide +kernel) (by decide +kernel)
theorem pm_X6_40 : Cond.methodLink RX6 40 yX6_countTypes ∈ ab_tb := ab_tb_at 545 (by decide +kernel) (by decide +kernel)
theorem mf_X6_countTypes : ab_mfV yX6_countTypes cX6_countTypes 6 (some .int) 1 := ⟨ab_tb_at 547 (by decide +kernel) (by decide +kernel), ab_tb_at 0 (by decide +kernel) (by decide +kernel), ab_tb_at 106 (by decide +kernel) (by decide +kernel), ab_tb_at 548 (by decide +kernel) (by decide +kernel), by decide +kernel, by decide⟩
theorem pm_X6_44 : Cond.methodLink RX6 44 yX6_addNeeds ∈ ab_tb := ab_tb_at 558 (by decide +kernel) (by decide +kernel)
theorem mf_X6_addNeeds : ab_mfV yX6_addNeeds cX6_addNeeds 7 none 1 := ⟨ab_tb_at 560 (by decide +kernel) (by decide +kernel), ab_tb_at 1 (by decide +kernel) (by decide +kernel), ab_tb_at 106 (by decide +kernel) (by decide +kernel), ab_tb_at 561 (by decide +kernel) (by decide +kernel), by decide +kernel, by decide⟩
theorem pm_X6_48 : Cond.methodLink RX6 48 yJ7_fill_53178 ∈ ab_tb := ab_tb_at 573 (by decide +kernel) (by decide +kernel)
theorem pm_X6_54 : Cond.methodLink RX6 54 yX8_hostsInUse ∈ ab_tb := ab_tb_at 574 (by decide +kernel) (by decide +kernel)
theorem mf_X8_hostsInUse : ab_mfV yX8_hostsInUse cX8_hostsInUse 3 (some .int) 0 := ⟨ab_tb_at 575 (by decide +kernel) (by decide +kernel), ab_tb_at 576 (by decide +kernel) (by decide +kernel), ab_tb_at 103 (by decide +kernel) (by decide +kernel), ab_tb_at 577 (by decide +kernel) (by decide +kernel), by decide +kernel, by decide⟩
theorem pm_X7_3 : Cond.methodLink RX7 3 Lib.objectInit ∈ ab_tb := ab_tb_at 136 (by decide +kernel) (by decide +kernel)
theorem pf_X7_9 : Cond.fieldLink RX7 9 (TX7 0).1 (TX7 0).2.1 (TX7 0).2.2.1 ∈ ab_tb := ab_tb_at 254 (by decide +kernel) (by decide +kernel)
theorem lk_X7_9 : ab_lkF RX7 9 7 0 true (.array .byte) := ⟨RX7, TX7, 10, tyX7, rfl, by decide, fi_X7, tyX7_ok, nmX7, rfl, rfl, Or.inl pf_X7_9⟩
theorem pf_X7_15 : Cond.fieldLink RX7 15 (TX7 1).1 (TX7 1).2.1 (TX7 1).2.2.1 ∈ ab_tb := ab_tb_at 255 (by decide +kernel) (by decide +kernel)
theorem lk_X7_15 : ab_lkF RX7 15 7 1 false .int := ⟨RX7, TX7, 10, tyX7, rfl, by decide, fi_X7, tyX7_ok, nmX7, rfl, rfl, Or.inl pf_X7_15⟩
theorem nw_X7_19 : ab_lkN RX7 19 1 [some none, some none, some none, some none, some none, some none] := ⟨RX1, TX1, 6, tyX1, rfl, fi_X1, tyX1_ok, ab_tb_at 137 (by decide +kernel) (by decide +kernel), ab_tb_at 138 (by decide +kernel) (by decide +kernel), ab_tb_at 98 (by decide +kernel) (by decide +kernel), rfl, by decide +kernel⟩
theorem pm_X7_21 : Cond.methodLink RX7 21 yX1_init ∈ ab_tb := ab_tb_at 139 (by decide +kernel) (by decide +kernel)
theorem mf_X1_init : ab_mfI yX1_init cX1_init 1 0 := ⟨ab_tb_at 140 (by decide +kernel) (by decide +kernel), ab_tb_at 98 (by decide +kernel) (by decide +kernel), ab_tb_at 141 (by decide +kernel) (by decide +kernel), by decide +kernel, by decide, rfl⟩
theorem pf_X7_22 : Cond.fieldLink RX7 22 (TX7 2).1 (TX7 2).2.1 (TX7 2).2.2.1 ∈ ab_tb := ab_tb_at 257 (by decide +kernel) (by decide +kernel)
theorem lk_X7_22 : ab_lkF RX7 22 7 2 true (.object "CloudMarket$Cloud") := ⟨RX7, TX7, 10, tyX7, rfl, by decide, fi_X7, tyX7_ok, nmX7, rfl, rfl, Or.inl pf_X7_22⟩
theorem pf_X7_26 : Cond.fieldLink RX7 26 (TX7 3).1 (TX7 3).2.1 (TX7 3).2.2.1 ∈ ab_tb := ab_tb_at 259 (by decide +kernel) (by decide +kernel)
theorem lk_X7_26 : ab_lkF RX7 26 7 3 false .int := ⟨RX7, TX7, 10, tyX7, rfl, by decide, fi_X7, tyX7_ok, nmX7, rfl, rfl, Or.inl pf_X7_26⟩
theorem pf_X7_29 : Cond.fieldLink RX7 29 (TX7 4).1 (TX7 4).2.1 (TX7 4).2.2.1 ∈ ab_tb := ab_tb_at 261 (by decide +kernel) (by decide +kernel)
theorem lk_X7_29 : ab_lkF RX7 29 7 4 false .int := ⟨RX7, TX7, 10, tyX7, rfl, by decide, fi_X7, tyX7_ok, nmX7, rfl, rfl, Or.inl pf_X7_29⟩
theorem pf_X7_32 : Cond.fieldLink RX7 32 (TX7 5).1 (TX7 5).2.1 (TX7 5).2.2.1 ∈ ab_tb := ab_tb_at 262 (by decide +kernel) (by decide +kernel)
theorem lk_X7_32 : ab_lkF RX7 32 7 5 false .int := ⟨RX7, TX7, 10, tyX7, rfl, by decide, fi_X7, tyX7_ok, nmX7, rfl, rfl, Or.inl pf_X7_32⟩
theorem pf_X7_35 : Cond.fieldLink RX7 35 (TX7 6).1 (TX7 6).2.1 (TX7 6).2.2.1 ∈ ab_tb := ab_tb_at 263 (by decide +kernel) (by decide +kernel)
theorem lk_X7_35 : ab_lkF RX7 35 7 6 false .int := ⟨RX7, TX7, 10, tyX7, rfl, by decide, fi_X7, tyX7_ok, nmX7, rfl, rfl, Or.inl pf_X7_35⟩
theorem pf_X7_38 : Cond.fieldLink RX7 38 (TX7 7).1 (TX7 7).2.1 (TX7 7).2.2.1 ∈ ab_tb := ab_tb_at 264 (by decide +kernel) (by decide +kernel)
theorem lk_X7_38 : ab_lkF RX7 38 7 7 false .int := ⟨RX7, TX7, 10, tyX7, rfl, by decide, fi_X7, tyX7_ok, nmX7, rfl, rfl, Or.inl pf_X7_38⟩
theorem pf_X7_41 : Cond.fieldLink RX7 41 (TX7 8).1 (TX7 8).2.1 (TX7 8).2.2.1 ∈ ab_tb := ab_tb_at 265 (by decide +kernel) (by decide +kernel)
theorem lk_X7_41 : ab_lkF RX7 41 7 8 false .int := ⟨RX7, TX7, 10, tyX7, rfl, by decide, fi_X7, tyX7_ok, nmX7, rfl, rfl, Or.inl pf_X7_41⟩
theorem pf_X7_44 : Cond.fieldLink RX7 44 (TX7 9).1 (TX7 9).2.1 (TX7 9).2.2.1 ∈ ab_tb := ab_tb_at 266 (by decide +kernel) (by decide +kernel)
theorem lk_X7_44 : ab_lkF RX7 44 7 9 false .int := ⟨RX7, TX7, 10, tyX7, rfl, by decide, fi_X7, tyX7_ok, nmX7, rfl, rfl, Or.inl pf_X7_44⟩
theorem pm_X7_183 : Cond.methodLink RX7 183 yX7_sortOf ∈ ab_tb := ab_tb_at 698 (by decide +kernel) (by decide +kernel)
theorem mf_X7_sortOf : ab_mfS yX7_sortOf cX7_sortOf 1 (some .int) 1 := ⟨ab_tb_at 699 (by decide +kernel) (by decide +kernel), ab_tb_at 97 (by decide +kernel) (by decide +kernel), ab_tb_at 700 (by decide +kernel) (by decide +kernel), by decide +kernel, by decide⟩
theorem pm_X7_56 : Cond.methodLink RX7 56 Lib.Math.max.name ∈ ab_tb := ab_tb_at 689 (by decide +kernel) (by decide +kernel)
theorem pm_X7_180 : Cond.methodLink RX7 180 yX7_runEnd ∈ ab_tb := ab_tb_at 694 (by decide +kernel) (by decide +kernel)
theorem mf_X7_runEnd : ab_mfV yX7_runEnd cX7_runEnd 4 (some .int) 2 := ⟨ab_tb_at 696 (by decide +kernel) (by decide +kernel), ab_tb_at 5 (by decide +kernel) (by decide +kernel), ab_tb_at 97 (by decide +kernel) (by decide +kernel), ab_tb_at 697 (by decide +kernel) (by decide +kernel), by decide +kernel, by decide⟩
theorem pg_J0_38 : Cond.fieldLink RJ0 38 "java/lang/String" "COMPACT_STRINGS" "Z" ∈ ab_tb := ab_tb_at 718 (by decide +kernel) (by decide +kernel)
theorem pg_J0_15 : Cond.fieldLink RJ0 15 "java/lang/String" "coder" "B" ∈ ab_tb := ab_tb_at 1939 (by decide +kernel) (by decide +kernel)
theorem pg_J0_9 : Cond.fieldLink RJ0 9 "java/lang/String" "value" "[B" ∈ ab_tb := ab_tb_at 1938 (by decide +kernel) (by decide +kernel)
theorem pm_J0_335 : Cond.methodLink RJ0 335 yJ0_coder_7d493 ∈ ab_tb := ab_tb_at 714 (by decide +kernel) (by decide +kernel)
theorem mf_J0_coder_7d493 : ab_mfV yJ0_coder_7d493 cJ0_coder_7d493 1 (some .byte) 0 := ⟨ab_tb_at 715 (by decide +kernel) (by decide +kernel), ab_tb_at 716 (by decide +kernel) (by decide +kernel), ab_tb_at 115 (by decide +kernel) (by decide +kernel), ab_tb_at 717 (by decide +kernel) (by decide +kernel), by decide +kernel, by decide⟩
theorem pm_J1_9 : Cond.methodLink RJ1 9 yJ0_checkIndex_df160 ∈ ab_tb := ab_tb_at 731 (by decide +kernel) (by decide +kernel)
theorem pm_J0_492 : Cond.methodLink RJ0 492 yJ0_isLatin1_aae02 ∈ ab_tb := ab_tb_at 724 (by decide +kernel) (by decide +kernel)
theorem mf_J0_isLatin1_aae02 : ab_mfV yJ0_isLatin1_aae02 cJ0_isLatin1_aae02 1 (some .boolean) 0 := ⟨ab_tb_at 725 (by decide +kernel) (by decide +kernel), ab_tb_at 726 (by decide +kernel) (by decide +kernel), ab_tb_at 115 (by decide +kernel) (by decide +kernel), ab_tb_at 727 (by decide +kernel) (by decide +kernel), by decide +kernel, by decide⟩
theorem pm_J0_495 : Cond.methodLink RJ0 495 yJ1_charAt_3b067 ∈ ab_tb := ab_tb_at 728 (by decide +kernel) (by decide +kernel)
theorem mf_J1_charAt_3b067 : ab_mfS yJ1_charAt_3b067 cJ1_charAt_3b067 2 (some .char) 2 := ⟨ab_tb_at 729 (by decide +kernel) (by decide +kernel), ab_tb_at 116 (by decide +kernel) (by decide +kernel), ab_tb_at 730 (by decide +kernel) (by decide +kernel), by decide +kernel, by decide⟩
theorem pm_X7_187 : Cond.methodLink RX7 187 yJ0_length_8abf5 ∈ ab_tb := ab_tb_at 710 (by decide +kernel) (by decide +kernel)
theorem mf_J0_length_8abf5 : ab_mfV yJ0_length_8abf5 cJ0_length_8abf5 1 (some .int) 0 := ⟨ab_tb_at 711 (by decide +kernel) (by decide +kernel), ab_tb_at 712 (by decide +kernel) (by decide +kernel), ab_tb_at 115 (by decide +kernel) (by decide +kernel), ab_tb_at 713 (by decide +kernel) (by decide +kernel), by decide +kernel, by decide⟩
theorem pm_X7_191 : Cond.methodLink RX7 191 yJ0_charAt_5068e ∈ ab_tb := ab_tb_at 720 (by decide +kernel) (by decide +kernel)
theorem mf_J0_charAt_5068e : ab_mfV yJ0_charAt_5068e cJ0_charAt_5068e 2 (some .char) 1 := ⟨ab_tb_at 721 (by decide +kernel) (by decide +kernel), ab_tb_at 722 (by decide +kernel) (by decide +kernel), ab_tb_at 115 (by decide +kernel) (by decide +kernel), ab_tb_at 723 (by decide +kernel) (by decide +kernel), by decide +kernel, by decide⟩
theorem pm_X7_145 : Cond.methodLink RX7 145 yX10_isFull ∈ ab_tb := ab_tb_at 762 (by decide +kernel) (by decide +kernel)
theorem mf_X10_isFull : ab_mfV yX10_isFull cX10_isFull 1 (some .boolean) 0 := ⟨ab_tb_at 763 (by decide +kernel) (by decide +kernel), ab_tb_at 764 (by decide +kernel) (by decide +kernel), ab_tb_at 99 (by decide +kernel) (by decide +kernel), ab_tb_at 765 (by decide +kernel) (by decide +kernel), by decide +kernel, by decide⟩
theorem pm_X7_59 : Cond.methodLink RX7 59 yX7_advance ∈ ab_tb := ab_tb_at 690 (by decide +kernel) (by decide +kernel)
theorem mf_X7_advance : ab_mfV yX7_advance cX7_advance 3 none 0 := ⟨ab_tb_at 692 (by decide +kernel) (by decide +kernel), ab_tb_at 4 (by decide +kernel) (by decide +kernel), ab_tb_at 97 (by decide +kernel) (by decide +kernel), ab_tb_at 693 (by decide +kernel) (by decide +kernel), by decide +kernel, by decide⟩
theorem pm_X7_134 : Cond.methodLink RX7 134 yX7_fail ∈ ab_tb := ab_tb_at 766 (by decide +kernel) (by decide +kernel)
theorem mf_X7_fail : ab_mfV yX7_fail cX7_fail 2 (some .boolean) 1 := ⟨ab_tb_at 768 (by decide +kernel) (by decide +kernel), ab_tb_at 9 (by decide +kernel) (by decide +kernel), ab_tb_at 97 (by decide +kernel) (by decide +kernel), ab_tb_at 769 (by decide +kernel) (by decide +kernel), by decide +kernel, by decide⟩
theorem pm_X7_148 : Cond.methodLink RX7 148 yX7_number ∈ ab_tb := ab_tb_at 774 (by decide +kernel) (by decide +kernel)
theorem mf_X7_number : ab_mfV yX7_number cX7_number 3 (some .int) 0 := ⟨ab_tb_at 776 (by decide +kernel) (by decide +kernel), ab_tb_at 11 (by decide +kernel) (by decide +kernel), ab_tb_at 97 (by decide +kernel) (by decide +kernel), ab_tb_at 777 (by decide +kernel) (by decide +kernel), by decide +kernel, by decide⟩
theorem lk_X7_137 : ab_lkF RX7 137 10 3 false .int := ⟨RX10, TX10, 4, tyX10, rfl, by decide, fi_X10, tyX10_ok, nmX10, rfl, rfl, Or.inr ⟨"CloudMarket", List.mem_of_getElem? (i := 160) (by decide +kernel)⟩⟩
theorem pm_X7_152 : Cond.methodLink RX7 152 yX10_set ∈ ab_tb := ab_tb_at 778 (by decide +kernel) (by decide +kernel)
theorem pm_X10_36 : Cond.methodLink RX10 36 yX10_shift ∈ ab_tb := ab_tb_at 787 (by decide +kernel) (by decide +kernel)
theorem mf_X10_shift : ab_mfV yX10_shift cX10_shift 5 none 3 := ⟨ab_tb_at 789 (by decide +kernel) (by decide +kernel), ab_tb_at 13 (by decide +kernel) (by decide +kernel), ab_tb_at 99 (by decide +kernel) (by decide +kernel), ab_tb_at 790 (by decide +kernel) (by decide +kernel), by decide +kernel, by decide⟩
theorem pm_X7_160 : Cond.methodLink RX7 160 yX7_takes ∈ ab_tb := ab_tb_at 795 (by decide +kernel) (by decide +kernel)
theorem mf_X7_takes : ab_mfV yX7_takes cX7_takes 2 (some .boolean) 1 := ⟨ab_tb_at 797 (by decide +kernel) (by decide +kernel), ab_tb_at 15 (by decide +kernel) (by decide +kernel), ab_tb_at 97 (by decide +kernel) (by decide +kernel), ab_tb_at 798 (by decide +kernel) (by decide +kernel), by decide +kernel, by decide⟩
theorem pm_X7_156 : Cond.methodLink RX7 156 yX10_insertRow ∈ ab_tb := ab_tb_at 783 (by decide +kernel) (by decide +kernel)
theorem mf_X10_insertRow : ab_mfV yX10_insertRow cX10_insertRow 2 none 1 := ⟨ab_tb_at 784 (by decide +kernel) (by decide +kernel), ab_tb_at 785 (by decide +kernel) (by decide +kernel), ab_tb_at 99 (by decide +kernel) (by decide +kernel), ab_tb_at 786 (by decide +kernel) (by decide +kernel), by decide +kernel, by decide⟩
theorem pm_X7_114 : Cond.methodLink RX7 114 yX7_ends ∈ ab_tb := ab_tb_at 791 (by decide +kernel) (by decide +kernel)
theorem mf_X7_ends : ab_mfV yX7_ends cX7_ends 1 (some .boolean) 0 := ⟨ab_tb_at 793 (by decide +kernel) (by decide +kernel), ab_tb_at 14 (by decide +kernel) (by decide +kernel), ab_tb_at 97 (by decide +kernel) (by decide +kernel), ab_tb_at 794 (by decide +kernel) (by decide +kernel), by decide +kernel, by decide⟩
theorem pm_X7_76 : Cond.methodLink RX7 76 yX7_opens ∈ ab_tb := ab_tb_at 758 (by decide +kernel) (by decide +kernel)
theorem mf_X7_opens : ab_mfV yX7_opens cX7_opens 2 (some .boolean) 1 := ⟨ab_tb_at 760 (by decide +kernel) (by decide +kernel), ab_tb_at 8 (by decide +kernel) (by decide +kernel), ab_tb_at 97 (by decide +kernel) (by decide +kernel), ab_tb_at 761 (by decide +kernel) (by decide +kernel), by decide +kernel, by decide⟩
theorem lk_X7_94 : ab_lkF RX7 94 1 2 true (.object "CloudMarket$Table") := ⟨RX1, TX1, 6, tyX1, rfl, by decide, fi_X1, tyX1_ok, nmX1, rfl, rfl, Or.inr ⟨"CloudMarket", List.mem_of_getElem? (i := 228) (by decide +kernel)⟩⟩
theorem pm_X7_80 : Cond.methodLink RX7 80 yX7_puts ∈ ab_tb := ab_tb_at 770 (by decide +kernel) (by decide +kernel)
theorem mf_X7_puts : ab_mfV yX7_puts cX7_puts 6 (some .boolean) 4 := ⟨ab_tb_at 772 (by decide +kernel) (by decide +kernel), ab_tb_at 10 (by decide +kernel) (by decide +kernel), ab_tb_at 97 (by decide +kernel) (by decide +kernel), ab_tb_at 773 (by decide +kernel) (by decide +kernel), by decide +kernel, by decide⟩
theorem lk_X7_89 : ab_lkF RX7 89 1 1 true (.object "CloudMarket$Table") := ⟨RX1, TX1, 6, tyX1, rfl, by decide, fi_X1, tyX1_ok, nmX1, rfl, rfl, Or.inr ⟨"CloudMarket", List.mem_of_getElem? (i := 222) (by decide +kernel)⟩⟩
theorem pm_X7_142 : Cond.methodLink RX7 142 yX10_get ∈ ab_tb := ab_tb_at 806 (by decide +kernel) (by decide +kernel)
theorem pm_X7_84 : Cond.methodLink RX7 84 yX7_closes ∈ ab_tb := ab_tb_at 779 (by decide +kernel) (by decide +kernel)
theorem mf_X7_closes : ab_mfV yX7_closes cX7_closes 2 (some .boolean) 1 := ⟨ab_tb_at 781 (by decide +kernel) (by decide +kernel), ab_tb_at 12 (by decide +kernel) (by decide +kernel), ab_tb_at 97 (by decide +kernel) (by decide +kernel), ab_tb_at 782 (by decide +kernel) (by decide +kernel), by decide +kernel, by decide⟩
theorem pm_X7_68 : Cond.methodLink RX7 68 yX7_isWord ∈ ab_tb := ab_tb_at 706 (by decide +kernel) (by decide +kernel)
theorem mf_X7_isWord : ab_mfV yX7_isWord cX7_isWord 4 (some .boolean) 1 := ⟨ab_tb_at 708 (by decide +kernel) (by decide +kernel), ab_tb_at 7 (by decide +kernel) (by decide +kernel), ab_tb_at 97 (by decide +kernel) (by decide +kernel), ab_tb_at 709 (by decide +kernel) (by decide +kernel), by decide +kernel, by decide⟩
theorem lk_X7_123 : ab_lkF RX7 123 1 5 true (.object "CloudMarket$Sum") := ⟨RX1, TX1, 6, tyX1, rfl, by decide, fi_X1, tyX1_ok, nmX1, rfl, rfl, Or.inr ⟨"CloudMarket", List.mem_of_getElem? (i := 239) (by decide +kernel)⟩⟩
theorem pm_X7_166 : Cond.methodLink RX7 166 yX9_add ∈ ab_tb := ab_tb_at 832 (by decide +kernel) (by decide +kernel)
theorem pm_X7_169 : Cond.methodLink RX7 169 yX7_name ∈ ab_tb := ab_tb_at 824 (by decide +kernel) (by decide +kernel)
theorem mf_X7_name : ab_mfV yX7_name cX7_name 1 (some .int) 0 := ⟨ab_tb_at 826 (by decide +kernel) (by decide +kernel), ab_tb_at 20 (by decide +kernel) (by decide +kernel), ab_tb_at 97 (by decide +kernel) (by decide +kernel), ab_tb_at 827 (by decide +kernel) (by decide +kernel), by decide +kernel, by decide⟩
theorem pm_X7_131 : Cond.methodLink RX7 131 yX7_sum ∈ ab_tb := ab_tb_at 816 (by decide +kernel) (by decide +kernel)
theorem mf_X7_sum : ab_mfV yX7_sum cX7_sum 8 (some .boolean) 1 := ⟨ab_tb_at 818 (by decide +kernel) (by decide +kernel), ab_tb_at 18 (by decide +kernel) (by decide +kernel), ab_tb_at 97 (by decide +kernel) (by decide +kernel), ab_tb_at 819 (by decide +kernel) (by decide +kernel), by decide +kernel, by decide⟩
theorem pm_X7_163 : Cond.methodLink RX7 163 yX7_factor ∈ ab_tb := ab_tb_at 820 (by decide +kernel) (by decide +kernel)
theorem mf_X7_factor : ab_mfV yX7_factor cX7_factor 3 (some .boolean) 1 := ⟨ab_tb_at 822 (by decide +kernel) (by decide +kernel), ab_tb_at 19 (by decide +kernel) (by decide +kernel), ab_tb_at 97 (by decide +kernel) (by decide +kernel), ab_tb_at 823 (by decide +kernel) (by decide +kernel), by decide +kernel, by decide⟩
theorem pm_X7_126 : Cond.methodLink RX7 126 yX9_clear ∈ ab_tb := ab_tb_at 815 (by decide +kernel) (by decide +kernel)
theorem pm_X7_107 : Cond.methodLink RX7 107 yX7_isFirst ∈ ab_tb := ab_tb_at 808 (by decide +kernel) (by decide +kernel)
theorem mf_X7_isFirst : ab_mfV yX7_isFirst cX7_isFirst 2 (some .boolean) 1 := ⟨ab_tb_at 810 (by decide +kernel) (by decide +kernel), ab_tb_at 17 (by decide +kernel) (by decide +kernel), ab_tb_at 97 (by decide +kernel) (by decide +kernel), ab_tb_at 811 (by decide +kernel) (by decide +kernel), by decide +kernel, by decide⟩
theorem lk_X7_111 : ab_lkF RX7 111 1 4 true (.object "CloudMarket$Table") := ⟨RX1, TX1, 6, tyX1, rfl, by decide, fi_X1, tyX1_ok, nmX1, rfl, rfl, Or.inr ⟨"CloudMarket", List.mem_of_getElem? (i := 236) (by decide +kernel)⟩⟩
theorem lk_X7_99 : ab_lkF RX7 99 1 3 true (.object "CloudMarket$Table") := ⟨RX1, TX1, 6, tyX1, rfl, by decide, fi_X1, tyX1_ok, nmX1, rfl, rfl, Or.inr ⟨"CloudMarket", List.mem_of_getElem? (i := 233) (by decide +kernel)⟩⟩
theorem pm_X7_102 : Cond.methodLink RX7 102 yX7_reservation ∈ ab_tb := ab_tb_at 802 (by decide +kernel) (by decide +kernel)
theorem mf_X7_reservation : ab_mfV yX7_reservation cX7_reservation 2 (some .boolean) 1 := ⟨ab_tb_at 804 (by decide +kernel) (by decide +kernel), ab_tb_at 16 (by decide +kernel) (by decide +kernel), ab_tb_at 97 (by decide +kernel) (by decide +kernel), ab_tb_at 805 (by decide +kernel) (by decide +kernel), by decide +kernel, by decide⟩
theorem lk_X7_72 : ab_lkF RX7 72 1 0 true (.object "CloudMarket$Table") := ⟨RX1, TX1, 6, tyX1, rfl, by decide, fi_X1, tyX1_ok, nmX1, rfl, rfl, Or.inr ⟨"CloudMarket", List.mem_of_getElem? (i := 216) (by decide +kernel)⟩⟩
theorem pm_X7_62 : Cond.methodLink RX7 62 yX7_statement ∈ ab_tb := ab_tb_at 701 (by decide +kernel) (by decide +kernel)
theorem mf_X7_statement : ab_mfV yX7_statement cX7_statement 1 (some .boolean) 0 := ⟨ab_tb_at 703 (by decide +kernel) (by decide +kernel), ab_tb_at 6 (by decide +kernel) (by decide +kernel), ab_tb_at 97 (by decide +kernel) (by decide +kernel), ab_tb_at 704 (by decide +kernel) (by decide +kernel), by decide +kernel, by decide⟩
theorem pm_X7_47 : Cond.methodLink RX7 47 yX1_reset ∈ ab_tb := ab_tb_at 687 (by decide +kernel) (by decide +kernel)
theorem pm_X7_50 : Cond.methodLink RX7 50 Lib.Math.min.name ∈ ab_tb := ab_tb_at 688 (by decide +kernel) (by decide +kernel)
theorem lk_X8_103 : ab_lkF RX8 103 10 3 false .int := ⟨RX10, TX10, 4, tyX10, rfl, by decide, fi_X10, tyX10_ok, nmX10, rfl, rfl, Or.inr ⟨"CloudMarket", List.mem_of_getElem? (i := 162) (by decide +kernel)⟩⟩
theorem pm_X8_168 : Cond.methodLink RX8 168 yX1_priceAt ∈ ab_tb := ab_tb_at 858 (by decide +kernel) (by decide +kernel)
theorem mf_X1_priceAt : ab_mfV yX1_priceAt cX1_priceAt 5 (some .int) 2 := ⟨ab_tb_at 859 (by decide +kernel) (by decide +kernel), ab_tb_at 860 (by decide +kernel) (by decide +kernel), ab_tb_at 98 (by decide +kernel) (by decide +kernel), ab_tb_at 861 (by decide +kernel) (by decide +kernel), by decide +kernel, by decide⟩
theorem pm_X8_165 : Cond.methodLink RX8 165 yX10_total ∈ ab_tb := ab_tb_at 857 (by decide +kernel) (by decide +kernel)
theorem mf_X10_total : ab_mfV yX10_total cX10_total 4 (some .int) 1 := ⟨ab_tb_at 513 (by decide +kernel) (by decide +kernel), ab_tb_at 514 (by decide +kernel) (by decide +kernel), ab_tb_at 99 (by decide +kernel) (by decide +kernel), ab_tb_at 515 (by decide +kernel) (by decide +kernel), by decide +kernel, by decide⟩
theorem pm_X8_40 : Cond.methodLink RX8 40 yX10_clear ∈ ab_tb := ab_tb_at 849 (by decide +kernel) (by decide +kernel)
theorem pm_X8_43 : Cond.methodLink RX8 43 yJ7_fill_d0a16 ∈ ab_tb := ab_tb_at 850 (by decide +kernel) (by decide +kernel)
theorem mf_J7_fill_d0a16 : ab_mfS yJ7_fill_d0a16 cJ7_fill_d0a16 5 none 2 := ⟨ab_tb_at 851 (by decide +kernel) (by decide +kernel), ab_tb_at 102 (by decide +kernel) (by decide +kernel), ab_tb_at 852 (by decide +kernel) (by decide +kernel), by decide +kernel, by decide⟩
theorem pm_X8_49 : Cond.methodLink RX8 49 yX8_setPrices ∈ ab_tb := ab_tb_at 853 (by decide +kernel) (by decide +kernel)
theorem mf_X8_setPrices : ab_mfV yX8_setPrices cX8_setPrices 5 none 1 := ⟨ab_tb_at 855 (by decide +kernel) (by decide +kernel), ab_tb_at 21 (by decide +kernel) (by decide +kernel), ab_tb_at 103 (by decide +kernel) (by decide +kernel), ab_tb_at 856 (by decide +kernel) (by decide +kernel), by decide +kernel, by decide⟩
theorem pm_X8_69 : Cond.methodLink RX8 69 yJ6_bitCount_0f7a4 ∈ ab_tb := ab_tb_at 1205 (by decide +kernel) (by decide +kernel)
theorem pm_X8_82 : Cond.methodLink RX8 82 yX8_spentBy ∈ ab_tb := ab_tb_at 1057 (by decide +kernel) (by decide +kernel)
theorem mf_X8_spentBy : ab_mfV yX8_spentBy cX8_spentBy 2 (some .long) 1 := ⟨ab_tb_at 995 (by decide +kernel) (by decide +kernel), ab_tb_at 996 (by decide +kernel) (by decide +kernel), ab_tb_at 103 (by decide +kernel) (by decide +kernel), ab_tb_at 997 (by decide +kernel) (by decide +kernel), by decide +kernel, by decide⟩
theorem pk_X8_86 : Cond.constantLong RX8 86 100 ∈ ab_tb := ab_tb_at 1058 (by decide +kernel) (by decide +kernel)
theorem lk_X8_88 : ab_lkF RX8 88 1 2 true (.object "CloudMarket$Table") := ⟨RX1, TX1, 6, tyX1, rfl, by decide, fi_X1, tyX1_ok, nmX1, rfl, rfl, Or.inr ⟨"CloudMarket", List.mem_of_getElem? (i := 229) (by decide +kernel)⟩⟩
theorem pm_X8_99 : Cond.methodLink RX8 99 yX8_left ∈ ab_tb := ab_tb_at 934 (by decide +kernel) (by decide +kernel)
theorem pm_X8_106 : Cond.methodLink RX8 106 yX8_fits ∈ ab_tb := ab_tb_at 930 (by decide +kernel) (by decide +kernel)
theorem mf_X8_fits : ab_mfV yX8_fits cX8_fits 4 (some .boolean) 3 := ⟨ab_tb_at 931 (by decide +kernel) (by decide +kernel), ab_tb_at 932 (by decide +kernel) (by decide +kernel), ab_tb_at 103 (by decide +kernel) (by decide +kernel), ab_tb_at 933 (by decide +kernel) (by decide +kernel), by decide +kernel, by decide⟩
theorem pm_X8_123 : Cond.methodLink RX8 123 yX8_lowestFree ∈ ab_tb := ab_tb_at 1211 (by decide +kernel) (by decide +kernel)
theorem mf_X8_lowestFree : ab_mfV yX8_lowestFree cX8_lowestFree 2 (some .int) 0 := ⟨ab_tb_at 1213 (by decide +kernel) (by decide +kernel), ab_tb_at 32 (by decide +kernel) (by decide +kernel), ab_tb_at 103 (by decide +kernel) (by decide +kernel), ab_tb_at 1214 (by decide +kernel) (by decide +kernel), by decide +kernel, by decide⟩
theorem lk_X8_141 : ab_lkF RX8 141 1 4 true (.object "CloudMarket$Table") := ⟨RX1, TX1, 6, tyX1, rfl, by decide, fi_X1, tyX1_ok, nmX1, rfl, rfl, Or.inr ⟨"CloudMarket", List.mem_of_getElem? (i := 237) (by decide +kernel)⟩⟩
theorem pm_X8_144 : Cond.methodLink RX8 144 yX10_insertRow ∈ ab_tb := ab_tb_at 1278 (by decide +kernel) (by decide +kernel)
theorem pm_X10_39 : Cond.methodLink RX10 39 yX10_has ∈ ab_tb := ab_tb_at 1219 (by decide +kernel) (by decide +kernel)
theorem mf_X10_has : ab_mfV yX10_has cX10_has 2 (some .boolean) 1 := ⟨ab_tb_at 533 (by decide +kernel) (by decide +kernel), ab_tb_at 534 (by decide +kernel) (by decide +kernel), ab_tb_at 99 (by decide +kernel) (by decide +kernel), ab_tb_at 535 (by decide +kernel) (by decide +kernel), by decide +kernel, by decide⟩
theorem pm_X8_148 : Cond.methodLink RX8 148 yX10_removeRow ∈ ab_tb := ab_tb_at 1215 (by decide +kernel) (by decide +kernel)
theorem mf_X10_removeRow : ab_mfV yX10_removeRow cX10_removeRow 2 none 1 := ⟨ab_tb_at 1216 (by decide +kernel) (by decide +kernel), ab_tb_at 1217 (by decide +kernel) (by decide +kernel), ab_tb_at 99 (by decide +kernel) (by decide +kernel), ab_tb_at 1218 (by decide +kernel) (by decide +kernel), by decide +kernel, by decide⟩
theorem pm_X8_161 : Cond.methodLink RX8 161 yX8_end ∈ ab_tb := ab_tb_at 1180 (by decide +kernel) (by decide +kernel)
theorem mf_X8_end : ab_mfV yX8_end cX8_end 3 none 2 := ⟨ab_tb_at 1181 (by decide +kernel) (by decide +kernel), ab_tb_at 1182 (by decide +kernel) (by decide +kernel), ab_tb_at 103 (by decide +kernel) (by decide +kernel), ab_tb_at 1183 (by decide +kernel) (by decide +kernel), by decide +kernel, by decide⟩
theorem pm_X8_171 : Cond.methodLink RX8 171 yX8_giveNotice ∈ ab_tb := ab_tb_at 1193 (by decide +kernel) (by decide +kernel)
theorem mf_X8_giveNotice : ab_mfV yX8_giveNotice cX8_giveNotice 3 none 2 := ⟨ab_tb_at 1194 (by decide +kernel) (by decide +kernel), ab_tb_at 1195 (by decide +kernel) (by decide +kernel), ab_tb_at 103 (by decide +kernel) (by decide +kernel), ab_tb_at 1196 (by decide +kernel) (by decide +kernel), by decide +kernel, by decide⟩
theorem pm_X8_181 : Cond.methodLink RX8 181 yX8_start ∈ ab_tb := ab_tb_at 1207 (by decide +kernel) (by decide +kernel)
theorem mf_X8_start : ab_mfV yX8_start cX8_start 7 (some .int) 5 := ⟨ab_tb_at 1208 (by decide +kernel) (by decide +kernel), ab_tb_at 1209 (by decide +kernel) (by decide +kernel), ab_tb_at 103 (by decide +kernel) (by decide +kernel), ab_tb_at 1210 (by decide +kernel) (by decide +kernel), by decide +kernel, by decide⟩
theorem pm_X8_178 : Cond.methodLink RX8 178 yX8_tightestHost ∈ ab_tb := ab_tb_at 1206 (by decide +kernel) (by decide +kernel)
theorem mf_X8_tightestHost : ab_mfV yX8_tightestHost cX8_tightestHost 7 (some .int) 2 := ⟨ab_tb_at 927 (by decide +kernel) (by decide +kernel), ab_tb_at 928 (by decide +kernel) (by decide +kernel), ab_tb_at 103 (by decide +kernel) (by decide +kernel), ab_tb_at 929 (by decide +kernel) (by decide +kernel), by decide +kernel, by decide⟩
theorem pm_X8_174 : Cond.methodLink RX8 174 yX8_isFull ∈ ab_tb := ab_tb_at 1201 (by decide +kernel) (by decide +kernel)
theorem mf_X8_isFull : ab_mfV yX8_isFull cX8_isFull 1 (some .boolean) 0 := ⟨ab_tb_at 1202 (by decide +kernel) (by decide +kernel), ab_tb_at 1203 (by decide +kernel) (by decide +kernel), ab_tb_at 103 (by decide +kernel) (by decide +kernel), ab_tb_at 1204 (by decide +kernel) (by decide +kernel), by decide +kernel, by decide⟩
theorem pm_X8_151 : Cond.methodLink RX8 151 yX8_endDue ∈ ab_tb := ab_tb_at 1176 (by decide +kernel) (by decide +kernel)
theorem mf_X8_endDue : ab_mfV yX8_endDue cX8_endDue 5 (some .int) 1 := ⟨ab_tb_at 1178 (by decide +kernel) (by decide +kernel), ab_tb_at 28 (by decide +kernel) (by decide +kernel), ab_tb_at 103 (by decide +kernel) (by decide +kernel), ab_tb_at 1179 (by decide +kernel) (by decide +kernel), by decide +kernel, by decide⟩
theorem pm_X8_155 : Cond.methodLink RX8 155 yX8_setNotices ∈ ab_tb := ab_tb_at 1189 (by decide +kernel) (by decide +kernel)
theorem mf_X8_setNotices : ab_mfV yX8_setNotices cX8_setNotices 4 none 1 := ⟨ab_tb_at 1191 (by decide +kernel) (by decide +kernel), ab_tb_at 30 (by decide +kernel) (by decide +kernel), ab_tb_at 103 (by decide +kernel) (by decide +kernel), ab_tb_at 1192 (by decide +kernel) (by decide +kernel), by decide +kernel, by decide⟩
theorem pm_X8_158 : Cond.methodLink RX8 158 yX8_grantRequests ∈ ab_tb := ab_tb_at 1197 (by decide +kernel) (by decide +kernel)
theorem mf_X8_grantRequests : ab_mfV yX8_grantRequests cX8_grantRequests 8 none 1 := ⟨ab_tb_at 1199 (by decide +kernel) (by decide +kernel), ab_tb_at 31 (by decide +kernel) (by decide +kernel), ab_tb_at 103 (by decide +kernel) (by decide +kernel), ab_tb_at 1200 (by decide +kernel) (by decide +kernel), by decide +kernel, by decide⟩
theorem pm_X11_1 : Cond.methodLink RX11 1 Lib.objectInit ∈ ab_tb := ab_tb_at 128 (by decide +kernel) (by decide +kernel)
theorem nw_X11_7 : ab_lkN RX11 7 7 [some none, none, some none, none, none, none, none, none, none, none] := ⟨RX7, TX7, 10, tyX7, rfl, fi_X7, tyX7_ok, ab_tb_at 131 (by decide +kernel) (by decide +kernel), ab_tb_at 132 (by decide +kernel) (by decide +kernel), ab_tb_at 97 (by decide +kernel) (by decide +kernel), rfl, by decide +kernel⟩
theorem pn_X11_9 : ∃ host, Cond.methodLinkNest RX11 9 yX7_init host ∈ lw_tbl := ⟨"CloudMarket", List.mem_of_getElem? (i := 133) (by decide +kernel)⟩
theorem mf_X7_init : ab_mfI yX7_init cX7_init 1 0 := ⟨ab_tb_at 134 (by decide +kernel) (by decide +kernel), ab_tb_at 97 (by decide +kernel) (by decide +kernel), ab_tb_at 135 (by decide +kernel) (by decide +kernel), by decide +kernel, by decide, rfl⟩
theorem pf_X11_10 : Cond.fieldLink RX11 10 (TX11 0).1 (TX11 0).2.1 (TX11 0).2.2.1 ∈ ab_tb := ab_tb_at 460 (by decide +kernel) (by decide +kernel)
theorem lk_X11_10 : ab_lkF RX11 10 11 0 true (.object "CloudMarket$Reader") := ⟨RX11, TX11, 9, tyX11, rfl, by decide, fi_X11, tyX11_ok, nmX11, rfl, rfl, Or.inl pf_X11_10⟩
theorem nw_X11_16 : ab_lkN RX11 16 1 [some none, some none, some none, some none, some none, some none] := ⟨RX1, TX1, 6, tyX1, rfl, fi_X1, tyX1_ok, ab_tb_at 288 (by decide +kernel) (by decide +kernel), ab_tb_at 138 (by decide +kernel) (by decide +kernel), ab_tb_at 98 (by decide +kernel) (by decide +kernel), rfl, by decide +kernel⟩
theorem pm_X11_18 : Cond.methodLink RX11 18 yX1_init ∈ ab_tb := ab_tb_at 289 (by decide +kernel) (by decide +kernel)
theorem pf_X11_19 : Cond.fieldLink RX11 19 (TX11 1).1 (TX11 1).2.1 (TX11 1).2.2.1 ∈ ab_tb := ab_tb_at 461 (by decide +kernel) (by decide +kernel)
theorem lk_X11_19 : ab_lkF RX11 19 11 1 true (.object "CloudMarket$Cloud") := ⟨RX11, TX11, 9, tyX11, rfl, by decide, fi_X11, tyX11_ok, nmX11, rfl, rfl, Or.inl pf_X11_19⟩
theorem nw_X11_23 : ab_lkN RX11 23 8 [none, none, some none, some none, some none, some none, some none] := ⟨RX8, TX8, 7, tyX8, rfl, fi_X8, tyX8_ok, ab_tb_at 290 (by decide +kernel) (by decide +kernel), ab_tb_at 291 (by decide +kernel) (by decide +kernel), ab_tb_at 103 (by decide +kernel) (by decide +kernel), rfl, by decide +kernel⟩
theorem pn_X11_25 : ∃ host, Cond.methodLinkNest RX11 25 yX8_init host ∈ lw_tbl := ⟨"CloudMarket", List.mem_of_getElem? (i := 292) (by decide +kernel)⟩
theorem pf_X11_26 : Cond.fieldLink RX11 26 (TX11 2).1 (TX11 2).2.1 (TX11 2).2.2.1 ∈ ab_tb := ab_tb_at 462 (by decide +kernel) (by decide +kernel)
theorem lk_X11_26 : ab_lkF RX11 26 11 2 true (.object "CloudMarket$Situation") := ⟨RX11, TX11, 9, tyX11, rfl, by decide, fi_X11, tyX11_ok, nmX11, rfl, rfl, Or.inl pf_X11_26⟩
theorem pf_X11_30 : Cond.fieldLink RX11 30 (TX11 3).1 (TX11 3).2.1 (TX11 3).2.2.1 ∈ ab_tb := ab_tb_at 463 (by decide +kernel) (by decide +kernel)
theorem lk_X11_30 : ab_lkF RX11 30 11 3 true (.object "CloudMarket$Situation") := ⟨RX11, TX11, 9, tyX11, rfl, by decide, fi_X11, tyX11_ok, nmX11, rfl, rfl, Or.inl pf_X11_30⟩
theorem nw_X11_33 : ab_lkN RX11 33 4 [some none, some none, none, none, none] := ⟨RX4, TX4, 5, tyX4, rfl, fi_X4, tyX4_ok, ab_tb_at 332 (by decide +kernel) (by decide +kernel), ab_tb_at 333 (by decide +kernel) (by decide +kernel), ab_tb_at 104 (by decide +kernel) (by decide +kernel), rfl, by decide +kernel⟩
theorem pm_X11_35 : Cond.methodLink RX11 35 yX4_init ∈ ab_tb := ab_tb_at 334 (by decide +kernel) (by decide +kernel)
theorem mf_X4_init : ab_mfI yX4_init cX4_init 2 0 := ⟨ab_tb_at 335 (by decide +kernel) (by decide +kernel), ab_tb_at 104 (by decide +kernel) (by decide +kernel), ab_tb_at 336 (by decide +kernel) (by decide +kernel), by decide +kernel, by decide, rfl⟩
theorem pf_X11_36 : Cond.fieldLink RX11 36 (TX11 4).1 (TX11 4).2.1 (TX11 4).2.2.1 ∈ ab_tb := ab_tb_at 464 (by decide +kernel) (by decide +kernel)
theorem lk_X11_36 : ab_lkF RX11 36 11 4 true (.object "CloudMarket$History") := ⟨RX11, TX11, 9, tyX11, rfl, by decide, fi_X11, tyX11_ok, nmX11, rfl, rfl, Or.inl pf_X11_36⟩
theorem nw_X11_40 : ab_lkN RX11 40 0 [some none, some none] := ⟨RX0, TX0, 2, tyX0, rfl, fi_X0, tyX0_ok, ab_tb_at 358 (by decide +kernel) (by decide +kernel), ab_tb_at 359 (by decide +kernel) (by decide +kernel), ab_tb_at 105 (by decide +kernel) (by decide +kernel), rfl, by decide +kernel⟩
theorem pn_X11_42 : ∃ host, Cond.methodLinkNest RX11 42 yX0_init host ∈ lw_tbl := ⟨"CloudMarket", List.mem_of_getElem? (i := 360) (by decide +kernel)⟩
theorem mf_X0_init : ab_mfI yX0_init cX0_init 1 0 := ⟨ab_tb_at 361 (by decide +kernel) (by decide +kernel), ab_tb_at 105 (by decide +kernel) (by decide +kernel), ab_tb_at 362 (by decide +kernel) (by decide +kernel), by decide +kernel, by decide, rfl⟩
theorem pf_X11_43 : Cond.fieldLink RX11 43 (TX11 5).1 (TX11 5).2.1 (TX11 5).2.2.1 ∈ ab_tb := ab_tb_at 465 (by decide +kernel) (by decide +kernel)
theorem lk_X11_43 : ab_lkF RX11 43 11 5 true (.object "CloudMarket$Bills") := ⟨RX11, TX11, 9, tyX11, rfl, by decide, fi_X11, tyX11_ok, nmX11, rfl, rfl, Or.inl pf_X11_43⟩
theorem nw_X11_47 : ab_lkN RX11 47 6 [some none, some none, some none, some none, some none, some none] := ⟨RX6, TX6, 6, tyX6, rfl, fi_X6, tyX6_ok, ab_tb_at 374 (by decide +kernel) (by decide +kernel), ab_tb_at 375 (by decide +kernel) (by decide +kernel), ab_tb_at 106 (by decide +kernel) (by decide +kernel), rfl, by decide +kernel⟩
theorem pn_X11_49 : ∃ host, Cond.methodLinkNest RX11 49 yX6_init host ∈ lw_tbl := ⟨"CloudMarket", List.mem_of_getElem? (i := 376) (by decide +kernel)⟩
theorem mf_X6_init : ab_mfI yX6_init cX6_init 1 0 := ⟨ab_tb_at 377 (by decide +kernel) (by decide +kernel), ab_tb_at 106 (by decide +kernel) (by decide +kernel), ab_tb_at 378 (by decide +kernel) (by decide +kernel), by decide +kernel, by decide, rfl⟩
theorem pf_X11_50 : Cond.fieldLink RX11 50 (TX11 6).1 (TX11 6).2.1 (TX11 6).2.2.1 ∈ ab_tb := ab_tb_at 466 (by decide +kernel) (by decide +kernel)
theorem lk_X11_50 : ab_lkF RX11 50 11 6 true (.object "CloudMarket$Packing") := ⟨RX11, TX11, 9, tyX11, rfl, by decide, fi_X11, tyX11_ok, nmX11, rfl, rfl, Or.inl pf_X11_50⟩
theorem nw_X11_54 : ab_lkN RX11 54 3 [some none, none, none, none] := ⟨RX3, TX3, 4, tyX3, rfl, fi_X3, tyX3_ok, ab_tb_at 420 (by decide +kernel) (by decide +kernel), ab_tb_at 421 (by decide +kernel) (by decide +kernel), ab_tb_at 108 (by decide +kernel) (by decide +kernel), rfl, by decide +kernel⟩
theorem pn_X11_56 : ∃ host, Cond.methodLinkNest RX11 56 yX3_init host ∈ lw_tbl := ⟨"CloudMarket", List.mem_of_getElem? (i := 422) (by decide +kernel)⟩
theorem mf_X3_init : ab_mfI yX3_init cX3_init 1 0 := ⟨ab_tb_at 423 (by decide +kernel) (by decide +kernel), ab_tb_at 108 (by decide +kernel) (by decide +kernel), ab_tb_at 424 (by decide +kernel) (by decide +kernel), by decide +kernel, by decide, rfl⟩
theorem pf_X11_57 : Cond.fieldLink RX11 57 (TX11 7).1 (TX11 7).2.1 (TX11 7).2.2.1 ∈ ab_tb := ab_tb_at 467 (by decide +kernel) (by decide +kernel)
theorem lk_X11_57 : ab_lkF RX11 57 11 7 true (.object "CloudMarket$Eviction") := ⟨RX11, TX11, 9, tyX11, rfl, by decide, fi_X11, tyX11_ok, nmX11, rfl, rfl, Or.inl pf_X11_57⟩
theorem nw_X11_61 : ab_lkN RX11 61 2 [some none, some none, none, some none] := ⟨RX2, TX2, 4, tyX2, rfl, fi_X2, tyX2_ok, ab_tb_at 439 (by decide +kernel) (by decide +kernel), ab_tb_at 440 (by decide +kernel) (by decide +kernel), ab_tb_at 109 (by decide +kernel) (by decide +kernel), rfl, by decide +kernel⟩
theorem pn_X11_63 : ∃ host, Cond.methodLinkNest RX11 63 yX2_init host ∈ lw_tbl := ⟨"CloudMarket", List.mem_of_getElem? (i := 441) (by decide +kernel)⟩
theorem mf_X2_init : ab_mfI yX2_init cX2_init 1 0 := ⟨ab_tb_at 442 (by decide +kernel) (by decide +kernel), ab_tb_at 109 (by decide +kernel) (by decide +kernel), ab_tb_at 443 (by decide +kernel) (by decide +kernel), by decide +kernel, by decide, rfl⟩
theorem pf_X11_64 : Cond.fieldLink RX11 64 (TX11 8).1 (TX11 8).2.1 (TX11 8).2.2.1 ∈ ab_tb := ab_tb_at 468 (by decide +kernel) (by decide +kernel)
theorem lk_X11_64 : ab_lkF RX11 64 11 8 true (.object "CloudMarket$Drainage") := ⟨RX11, TX11, 9, tyX11, rfl, by decide, fi_X11, tyX11_ok, nmX11, rfl, rfl, Or.inl pf_X11_64⟩
theorem lk_X11_68 : ab_lkF RX11 68 7 1 false .int := ⟨RX7, TX7, 10, tyX7, rfl, by decide, fi_X7, tyX7_ok, nmX7, rfl, rfl, Or.inr ⟨"CloudMarket", List.mem_of_getElem? (i := 256) (by decide +kernel)⟩⟩
theorem pm_X11_72 : Cond.methodLink RX11 72 yX7_putWord ∈ ab_tb := ab_tb_at 492 (by decide +kernel) (by decide +kernel)
theorem mf_X7_putWord : ab_mfV yX7_putWord cX7_putWord 3 none 1 := ⟨ab_tb_at 493 (by decide +kernel) (by decide +kernel), ab_tb_at 494 (by decide +kernel) (by decide +kernel), ab_tb_at 97 (by decide +kernel) (by decide +kernel), ab_tb_at 495 (by decide +kernel) (by decide +kernel), by decide +kernel, by decide⟩
theorem xk_X11_76_80 : ab_lkX RX11 76 80 2 ["java/lang/RuntimeException", "java/lang/Exception"] := ⟨by decide, by decide, by decide +kernel, by decide +kernel, ab_tb_at 616 (by decide +kernel) (by decide +kernel), ab_tb_at 114 (by decide +kernel) (by decide +kernel), by decide +kernel, by decide +kernel, by decide +kernel⟩
theorem pm_X11_83 : Cond.methodLink RX11 83 yX7_read ∈ ab_tb := ab_tb_at 683 (by decide +kernel) (by decide +kernel)
theorem mf_X7_read : ab_mfV yX7_read cX7_read 4 (some .int) 1 := ⟨ab_tb_at 684 (by decide +kernel) (by decide +kernel), ab_tb_at 685 (by decide +kernel) (by decide +kernel), ab_tb_at 97 (by decide +kernel) (by decide +kernel), ab_tb_at 686 (by decide +kernel) (by decide +kernel), by decide +kernel, by decide⟩
theorem lk_X11_87 : ab_lkF RX11 87 7 2 true (.object "CloudMarket$Cloud") := ⟨RX7, TX7, 10, tyX7, rfl, by decide, fi_X7, tyX7_ok, nmX7, rfl, rfl, Or.inr ⟨"CloudMarket", List.mem_of_getElem? (i := 258) (by decide +kernel)⟩⟩
theorem pm_X11_90 : Cond.methodLink RX11 90 yX1_copyFrom ∈ ab_tb := ab_tb_at 833 (by decide +kernel) (by decide +kernel)
theorem mf_X1_copyFrom : ab_mfV yX1_copyFrom cX1_copyFrom 2 none 1 := ⟨ab_tb_at 834 (by decide +kernel) (by decide +kernel), ab_tb_at 835 (by decide +kernel) (by decide +kernel), ab_tb_at 98 (by decide +kernel) (by decide +kernel), ab_tb_at 836 (by decide +kernel) (by decide +kernel), by decide +kernel, by decide⟩
theorem pm_X11_94 : Cond.methodLink RX11 94 yX8_reset ∈ ab_tb := ab_tb_at 845 (by decide +kernel) (by decide +kernel)
theorem mf_X8_reset : ab_mfV yX8_reset cX8_reset 2 none 1 := ⟨ab_tb_at 846 (by decide +kernel) (by decide +kernel), ab_tb_at 847 (by decide +kernel) (by decide +kernel), ab_tb_at 103 (by decide +kernel) (by decide +kernel), ab_tb_at 848 (by decide +kernel) (by decide +kernel), by decide +kernel, by decide⟩
theorem pm_X11_97 : Cond.methodLink RX11 97 yX4_clear ∈ ab_tb := ab_tb_at 865 (by decide +kernel) (by decide +kernel)
theorem mf_X4_clear : ab_mfV yX4_clear cX4_clear 1 none 0 := ⟨ab_tb_at 866 (by decide +kernel) (by decide +kernel), ab_tb_at 867 (by decide +kernel) (by decide +kernel), ab_tb_at 104 (by decide +kernel) (by decide +kernel), ab_tb_at 868 (by decide +kernel) (by decide +kernel), by decide +kernel, by decide⟩
theorem lk_X11_100 : ab_lkF RX11 100 7 3 false .int := ⟨RX7, TX7, 10, tyX7, rfl, by decide, fi_X7, tyX7_ok, nmX7, rfl, rfl, Or.inr ⟨"CloudMarket", List.mem_of_getElem? (i := 260) (by decide +kernel)⟩⟩
theorem lk_X11_103 : ab_lkF RX11 103 1 0 true (.object "CloudMarket$Table") := ⟨RX1, TX1, 6, tyX1, rfl, by decide, fi_X1, tyX1_ok, nmX1, rfl, rfl, Or.inr ⟨"CloudMarket", List.mem_of_getElem? (i := 217) (by decide +kernel)⟩⟩
theorem lk_X11_107 : ab_lkF RX11 107 10 3 false .int := ⟨RX10, TX10, 4, tyX10, rfl, by decide, fi_X10, tyX10_ok, nmX10, rfl, rfl, Or.inr ⟨"CloudMarket", List.mem_of_getElem? (i := 159) (by decide +kernel)⟩⟩
theorem lk_X11_112 : ab_lkF RX11 112 8 0 false .int := ⟨RX8, TX8, 7, tyX8, rfl, by decide, fi_X8, tyX8_ok, nmX8, rfl, rfl, Or.inr ⟨"CloudMarket", List.mem_of_getElem? (i := 300) (by decide +kernel)⟩⟩
theorem pm_X11_161 : Cond.methodLink RX11 161 yX10_has ∈ ab_tb := ab_tb_at 532 (by decide +kernel) (by decide +kernel)
theorem xk_X11_328_332 : ab_lkX RX11 328 332 0 ["java/lang/RuntimeException", "java/lang/Exception"] := ⟨by decide, by decide, by decide +kernel, by decide +kernel, ab_tb_at 881 (by decide +kernel) (by decide +kernel), ab_tb_at 120 (by decide +kernel) (by decide +kernel), by decide +kernel, by decide +kernel, by decide +kernel⟩
theorem pm_X11_119 : Cond.methodLink RX11 119 yX8_left ∈ ab_tb := ab_tb_at 897 (by decide +kernel) (by decide +kernel)
theorem pm_X11_115 : Cond.methodLink RX11 115 yX11_needRow ∈ ab_tb := ab_tb_at 877 (by decide +kernel) (by decide +kernel)
theorem mf_X11_needRow : ab_mfV yX11_needRow cX11_needRow 3 none 2 := ⟨ab_tb_at 879 (by decide +kernel) (by decide +kernel), ab_tb_at 22 (by decide +kernel) (by decide +kernel), ab_tb_at 96 (by decide +kernel) (by decide +kernel), ab_tb_at 880 (by decide +kernel) (by decide +kernel), by decide +kernel, by decide⟩
theorem pm_X11_123 : Cond.methodLink RX11 123 yX8_setOn ∈ ab_tb := ab_tb_at 908 (by decide +kernel) (by decide +kernel)
theorem mf_X8_setOn : ab_mfV yX8_setOn cX8_setOn 4 (some .int) 1 := ⟨ab_tb_at 909 (by decide +kernel) (by decide +kernel), ab_tb_at 910 (by decide +kernel) (by decide +kernel), ab_tb_at 103 (by decide +kernel) (by decide +kernel), ab_tb_at 911 (by decide +kernel) (by decide +kernel), by decide +kernel, by decide⟩
theorem pm_X11_126 : Cond.methodLink RX11 126 yX10_total ∈ ab_tb := ab_tb_at 512 (by decide +kernel) (by decide +kernel)
theorem lk_X11_129 : ab_lkF RX11 129 8 5 true (.object "CloudMarket$Table") := ⟨RX8, TX8, 7, tyX8, rfl, by decide, fi_X8, tyX8_ok, nmX8, rfl, rfl, Or.inr ⟨"CloudMarket", List.mem_of_getElem? (i := 314) (by decide +kernel)⟩⟩
theorem lk_X11_132 : ab_lkF RX11 132 1 1 true (.object "CloudMarket$Table") := ⟨RX1, TX1, 6, tyX1, rfl, by decide, fi_X1, tyX1_ok, nmX1, rfl, rfl, Or.inr ⟨"CloudMarket", List.mem_of_getElem? (i := 225) (by decide +kernel)⟩⟩
theorem lk_X11_135 : ab_lkF RX11 135 8 4 true (.object "CloudMarket$Table") := ⟨RX8, TX8, 7, tyX8, rfl, by decide, fi_X8, tyX8_ok, nmX8, rfl, rfl, Or.inr ⟨"CloudMarket", List.mem_of_getElem? (i := 312) (by decide +kernel)⟩⟩
theorem pm_X11_138 : Cond.methodLink RX11 138 yX10_get ∈ ab_tb := ab_tb_at 536 (by decide +kernel) (by decide +kernel)
theorem pm_X11_142 : Cond.methodLink RX11 142 yX8_tightestHost ∈ ab_tb := ab_tb_at 926 (by decide +kernel) (by decide +kernel)
theorem pm_X11_146 : Cond.methodLink RX11 146 yX8_roomOn ∈ ab_tb := ab_tb_at 942 (by decide +kernel) (by decide +kernel)
theorem mf_X8_roomOn : ab_mfV yX8_roomOn cX8_roomOn 6 (some .int) 3 := ⟨ab_tb_at 943 (by decide +kernel) (by decide +kernel), ab_tb_at 944 (by decide +kernel) (by decide +kernel), ab_tb_at 103 (by decide +kernel) (by decide +kernel), ab_tb_at 945 (by decide +kernel) (by decide +kernel), by decide +kernel, by decide⟩
theorem lk_X11_149 : ab_lkF RX11 149 8 1 false .int := ⟨RX8, TX8, 7, tyX8, rfl, by decide, fi_X8, tyX8_ok, nmX8, rfl, rfl, Or.inr ⟨"CloudMarket", List.mem_of_getElem? (i := 302) (by decide +kernel)⟩⟩
theorem pm_X11_333 : Cond.methodLink RX11 333 yX8_runs ∈ ab_tb := ab_tb_at 957 (by decide +kernel) (by decide +kernel)
theorem pm_X11_152 : Cond.methodLink RX11 152 yX11_needInstance ∈ ab_tb := ab_tb_at 953 (by decide +kernel) (by decide +kernel)
theorem mf_X11_needInstance : ab_mfV yX11_needInstance cX11_needInstance 2 none 1 := ⟨ab_tb_at 955 (by decide +kernel) (by decide +kernel), ab_tb_at 23 (by decide +kernel) (by decide +kernel), ab_tb_at 96 (by decide +kernel) (by decide +kernel), ab_tb_at 956 (by decide +kernel) (by decide +kernel), by decide +kernel, by decide⟩
theorem lk_X11_155 : ab_lkF RX11 155 8 2 true (.object "CloudMarket$Table") := ⟨RX8, TX8, 7, tyX8, rfl, by decide, fi_X8, tyX8_ok, nmX8, rfl, rfl, Or.inr ⟨"CloudMarket", List.mem_of_getElem? (i := 307) (by decide +kernel)⟩⟩
theorem lk_X11_158 : ab_lkF RX11 158 8 3 true (.object "CloudMarket$Table") := ⟨RX8, TX8, 7, tyX8, rfl, by decide, fi_X8, tyX8_ok, nmX8, rfl, rfl, Or.inr ⟨"CloudMarket", List.mem_of_getElem? (i := 309) (by decide +kernel)⟩⟩
theorem lk_X11_165 : ab_lkF RX11 165 1 2 true (.object "CloudMarket$Table") := ⟨RX1, TX1, 6, tyX1, rfl, by decide, fi_X1, tyX1_ok, nmX1, rfl, rfl, Or.inr ⟨"CloudMarket", List.mem_of_getElem? (i := 230) (by decide +kernel)⟩⟩
theorem pm_X11_168 : Cond.methodLink RX11 168 yX8_spentBy ∈ ab_tb := ab_tb_at 994 (by decide +kernel) (by decide +kernel)
theorem pm_X11_172 : Cond.methodLink RX11 172 yX0_reckon ∈ ab_tb := ab_tb_at 1005 (by decide +kernel) (by decide +kernel)
theorem mf_X0_reckon : ab_mfV yX0_reckon cX0_reckon 5 none 2 := ⟨ab_tb_at 1006 (by decide +kernel) (by decide +kernel), ab_tb_at 1007 (by decide +kernel) (by decide +kernel), ab_tb_at 105 (by decide +kernel) (by decide +kernel), ab_tb_at 1008 (by decide +kernel) (by decide +kernel), by decide +kernel, by decide⟩
theorem lk_X11_176 : ab_lkF RX11 176 0 0 true (.object "CloudMarket$Table") := ⟨RX0, TX0, 2, tyX0, rfl, by decide, fi_X0, tyX0_ok, nmX0, rfl, rfl, Or.inr ⟨"CloudMarket", List.mem_of_getElem? (i := 367) (by decide +kernel)⟩⟩
theorem pm_X11_179 : Cond.methodLink RX11 179 yX8_regulars ∈ ab_tb := ab_tb_at 1036 (by decide +kernel) (by decide +kernel)
theorem mf_X8_regulars : ab_mfV yX8_regulars cX8_regulars 6 (some .int) 2 := ⟨ab_tb_at 1037 (by decide +kernel) (by decide +kernel), ab_tb_at 1038 (by decide +kernel) (by decide +kernel), ab_tb_at 103 (by decide +kernel) (by decide +kernel), ab_tb_at 1039 (by decide +kernel) (by decide +kernel), by decide +kernel, by decide⟩
theorem pm_X11_182 : Cond.methodLink RX11 182 yX1_reserved ∈ ab_tb := ab_tb_at 1040 (by decide +kernel) (by decide +kernel)
theorem mf_X1_reserved : ab_mfV yX1_reserved cX1_reserved 7 (some .int) 3 := ⟨ab_tb_at 1041 (by decide +kernel) (by decide +kernel), ab_tb_at 1042 (by decide +kernel) (by decide +kernel), ab_tb_at 98 (by decide +kernel) (by decide +kernel), ab_tb_at 1043 (by decide +kernel) (by decide +kernel), by decide +kernel, by decide⟩
theorem pm_X11_186 : Cond.methodLink RX11 186 Lib.Math.min.name ∈ ab_tb := ab_tb_at 1045 (by decide +kernel) (by decide +kernel)
theorem pm_X11_191 : Cond.methodLink RX11 191 yX8_isOver ∈ ab_tb := ab_tb_at 1053 (by decide +kernel) (by decide +kernel)
theorem mf_X8_isOver : ab_mfV yX8_isOver cX8_isOver 3 (some .boolean) 2 := ⟨ab_tb_at 1054 (by decide +kernel) (by decide +kernel), ab_tb_at 1055 (by decide +kernel) (by decide +kernel), ab_tb_at 103 (by decide +kernel) (by decide +kernel), ab_tb_at 1056 (by decide +kernel) (by decide +kernel), by decide +kernel, by decide⟩
theorem lk_X11_195 : ab_lkF RX11 195 1 3 true (.object "CloudMarket$Table") := ⟨RX1, TX1, 6, tyX1, rfl, by decide, fi_X1, tyX1_ok, nmX1, rfl, rfl, Or.inr ⟨"CloudMarket", List.mem_of_getElem? (i := 234) (by decide +kernel)⟩⟩
theorem pm_X11_198 : Cond.methodLink RX11 198 yX1_isActive ∈ ab_tb := ab_tb_at 1066 (by decide +kernel) (by decide +kernel)
theorem pm_X11_202 : Cond.methodLink RX11 202 yX1_payment ∈ ab_tb := ab_tb_at 1067 (by decide +kernel) (by decide +kernel)
theorem pm_X11_205 : Cond.methodLink RX11 205 yX6_fewestFor ∈ ab_tb := ab_tb_at 541 (by decide +kernel) (by decide +kernel)
theorem mf_X6_fewestFor : ab_mfV yX6_fewestFor cX6_fewestFor 7 (some .int) 2 := ⟨ab_tb_at 542 (by decide +kernel) (by decide +kernel), ab_tb_at 543 (by decide +kernel) (by decide +kernel), ab_tb_at 106 (by decide +kernel) (by decide +kernel), ab_tb_at 544 (by decide +kernel) (by decide +kernel), by decide +kernel, by decide⟩
theorem pm_X11_209 : Cond.methodLink RX11 209 yX3_cheapest ∈ ab_tb := ab_tb_at 1075 (by decide +kernel) (by decide +kernel)
theorem mf_X3_cheapest : ab_mfV yX3_cheapest cX3_cheapest 7 (some .int) 4 := ⟨ab_tb_at 1076 (by decide +kernel) (by decide +kernel), ab_tb_at 1077 (by decide +kernel) (by decide +kernel), ab_tb_at 108 (by decide +kernel) (by decide +kernel), ab_tb_at 1078 (by decide +kernel) (by decide +kernel), by decide +kernel, by decide⟩
theorem pm_X11_213 : Cond.methodLink RX11 213 yX8_moveCost ∈ ab_tb := ab_tb_at 1104 (by decide +kernel) (by decide +kernel)
theorem pm_X11_221 : Cond.methodLink RX11 221 yJ6_bitCount_0f7a4 ∈ ab_tb := ab_tb_at 1144 (by decide +kernel) (by decide +kernel)
theorem pm_X11_228 : Cond.methodLink RX11 228 yX2_plan ∈ ab_tb := ab_tb_at 1146 (by decide +kernel) (by decide +kernel)
theorem mf_X2_plan : ab_mfV yX2_plan cX2_plan 6 (some .boolean) 3 := ⟨ab_tb_at 1147 (by decide +kernel) (by decide +kernel), ab_tb_at 1148 (by decide +kernel) (by decide +kernel), ab_tb_at 109 (by decide +kernel) (by decide +kernel), ab_tb_at 1149 (by decide +kernel) (by decide +kernel), by decide +kernel, by decide⟩
theorem pm_X11_232 : Cond.methodLink RX11 232 yX2_targetOf ∈ ab_tb := ab_tb_at 1159 (by decide +kernel) (by decide +kernel)
theorem mf_X2_targetOf : ab_mfV yX2_targetOf cX2_targetOf 3 (some .int) 1 := ⟨ab_tb_at 1160 (by decide +kernel) (by decide +kernel), ab_tb_at 1161 (by decide +kernel) (by decide +kernel), ab_tb_at 109 (by decide +kernel) (by decide +kernel), ab_tb_at 1162 (by decide +kernel) (by decide +kernel), by decide +kernel, by decide⟩
theorem xk_X11_216_220 : ab_lkX RX11 216 220 1 ["java/lang/RuntimeException", "java/lang/Exception"] := ⟨by decide, by decide, by decide +kernel, by decide +kernel, ab_tb_at 1128 (by decide +kernel) (by decide +kernel), ab_tb_at 122 (by decide +kernel) (by decide +kernel), by decide +kernel, by decide +kernel, by decide +kernel⟩
theorem pm_X11_240 : Cond.methodLink RX11 240 yX8_nextHour ∈ ab_tb := ab_tb_at 1172 (by decide +kernel) (by decide +kernel)
theorem mf_X8_nextHour : ab_mfV yX8_nextHour cX8_nextHour 3 (some .int) 1 := ⟨ab_tb_at 1173 (by decide +kernel) (by decide +kernel), ab_tb_at 1174 (by decide +kernel) (by decide +kernel), ab_tb_at 103 (by decide +kernel) (by decide +kernel), ab_tb_at 1175 (by decide +kernel) (by decide +kernel), by decide +kernel, by decide⟩
theorem pm_X11_237 : Cond.methodLink RX11 237 yX8_copyFrom ∈ ab_tb := ab_tb_at 1171 (by decide +kernel) (by decide +kernel)
theorem pm_X11_249 : Cond.methodLink RX11 249 yX0_charge ∈ ab_tb := ab_tb_at 1240 (by decide +kernel) (by decide +kernel)
theorem mf_X0_charge : ab_mfV yX0_charge cX0_charge 3 none 1 := ⟨ab_tb_at 1241 (by decide +kernel) (by decide +kernel), ab_tb_at 1242 (by decide +kernel) (by decide +kernel), ab_tb_at 105 (by decide +kernel) (by decide +kernel), ab_tb_at 1243 (by decide +kernel) (by decide +kernel), by decide +kernel, by decide⟩
theorem pm_X11_246 : Cond.methodLink RX11 246 yX4_remember ∈ ab_tb := ab_tb_at 1235 (by decide +kernel) (by decide +kernel)
theorem mf_X4_remember : ab_mfV yX4_remember cX4_remember 2 none 1 := ⟨ab_tb_at 1236 (by decide +kernel) (by decide +kernel), ab_tb_at 1237 (by decide +kernel) (by decide +kernel), ab_tb_at 104 (by decide +kernel) (by decide +kernel), ab_tb_at 1238 (by decide +kernel) (by decide +kernel), by decide +kernel, by decide⟩
theorem pm_X11_252 : Cond.methodLink RX11 252 yX11_needBudget ∈ ab_tb := ab_tb_at 1255 (by decide +kernel) (by decide +kernel)
theorem mf_X11_needBudget : ab_mfV yX11_needBudget cX11_needBudget 2 none 1 := ⟨ab_tb_at 1257 (by decide +kernel) (by decide +kernel), ab_tb_at 33 (by decide +kernel) (by decide +kernel), ab_tb_at 96 (by decide +kernel) (by decide +kernel), ab_tb_at 1258 (by decide +kernel) (by decide +kernel), by decide +kernel, by decide⟩
theorem pm_X11_255 : Cond.methodLink RX11 255 yX8_isFull ∈ ab_tb := ab_tb_at 1260 (by decide +kernel) (by decide +kernel)
theorem pm_X11_263 : Cond.methodLink RX11 263 yX8_start ∈ ab_tb := ab_tb_at 1263 (by decide +kernel) (by decide +kernel)
theorem pm_X11_269 : Cond.methodLink RX11 269 yX10_isFull ∈ ab_tb := ab_tb_at 1272 (by decide +kernel) (by decide +kernel)
theorem pm_X11_272 : Cond.methodLink RX11 272 yX8_queue ∈ ab_tb := ab_tb_at 1274 (by decide +kernel) (by decide +kernel)
theorem mf_X8_queue : ab_mfV yX8_queue cX8_queue 5 none 3 := ⟨ab_tb_at 1275 (by decide +kernel) (by decide +kernel), ab_tb_at 1276 (by decide +kernel) (by decide +kernel), ab_tb_at 103 (by decide +kernel) (by decide +kernel), ab_tb_at 1277 (by decide +kernel) (by decide +kernel), by decide +kernel, by decide⟩
theorem pm_X11_276 : Cond.methodLink RX11 276 yX8_dropRequests ∈ ab_tb := ab_tb_at 1286 (by decide +kernel) (by decide +kernel)
theorem mf_X8_dropRequests : ab_mfV yX8_dropRequests cX8_dropRequests 4 (some .int) 1 := ⟨ab_tb_at 1287 (by decide +kernel) (by decide +kernel), ab_tb_at 1288 (by decide +kernel) (by decide +kernel), ab_tb_at 103 (by decide +kernel) (by decide +kernel), ab_tb_at 1289 (by decide +kernel) (by decide +kernel), by decide +kernel, by decide⟩
theorem pm_X11_279 : Cond.methodLink RX11 279 yX8_end ∈ ab_tb := ab_tb_at 1297 (by decide +kernel) (by decide +kernel)
theorem pm_X11_287 : Cond.methodLink RX11 287 yX8_giveNotice ∈ ab_tb := ab_tb_at 1307 (by decide +kernel) (by decide +kernel)
theorem pm_X11_292 : Cond.methodLink RX11 292 yX8_fits ∈ ab_tb := ab_tb_at 1316 (by decide +kernel) (by decide +kernel)
theorem pm_X11_298 : Cond.methodLink RX11 298 yX8_moveTo ∈ ab_tb := ab_tb_at 1318 (by decide +kernel) (by decide +kernel)
theorem pm_X11_305 : Cond.methodLink RX11 305 yX2_carryOut ∈ ab_tb := ab_tb_at 1333 (by decide +kernel) (by decide +kernel)
theorem mf_X2_carryOut : ab_mfV yX2_carryOut cX2_carryOut 4 none 2 := ⟨ab_tb_at 1334 (by decide +kernel) (by decide +kernel), ab_tb_at 1335 (by decide +kernel) (by decide +kernel), ab_tb_at 109 (by decide +kernel) (by decide +kernel), ab_tb_at 1336 (by decide +kernel) (by decide +kernel), by decide +kernel, by decide⟩
theorem pm_X11_308 : Cond.methodLink RX11 308 yX4_takeBack ∈ ab_tb := ab_tb_at 592 (by decide +kernel) (by decide +kernel)
theorem mf_X4_takeBack : ab_mfV yX4_takeBack cX4_takeBack 3 (some .boolean) 1 := ⟨ab_tb_at 593 (by decide +kernel) (by decide +kernel), ab_tb_at 594 (by decide +kernel) (by decide +kernel), ab_tb_at 104 (by decide +kernel) (by decide +kernel), ab_tb_at 595 (by decide +kernel) (by decide +kernel), by decide +kernel, by decide⟩
theorem lk_X11_312 : ab_lkF RX11 312 4 2 false .int := ⟨RX4, TX4, 5, tyX4, rfl, by decide, fi_X4, tyX4_ok, nmX4, rfl, rfl, Or.inr ⟨"CloudMarket", List.mem_of_getElem? (i := 344) (by decide +kernel)⟩⟩
theorem pm_X11_313 : Cond.methodLink RX11 313 yX11_needSlot ∈ ab_tb := ab_tb_at 1345 (by decide +kernel) (by decide +kernel)
theorem mf_X11_needSlot : ab_mfV yX11_needSlot cX11_needSlot 2 none 1 := ⟨ab_tb_at 1347 (by decide +kernel) (by decide +kernel), ab_tb_at 34 (by decide +kernel) (by decide +kernel), ab_tb_at 96 (by decide +kernel) (by decide +kernel), ab_tb_at 1348 (by decide +kernel) (by decide +kernel), by decide +kernel, by decide⟩
theorem pm_X11_316 : Cond.methodLink RX11 316 yX4_isSaved ∈ ab_tb := ab_tb_at 1350 (by decide +kernel) (by decide +kernel)
theorem pm_X11_319 : Cond.methodLink RX11 319 yX4_save ∈ ab_tb := ab_tb_at 1354 (by decide +kernel) (by decide +kernel)
theorem mf_X4_save : ab_mfV yX4_save cX4_save 3 none 2 := ⟨ab_tb_at 1355 (by decide +kernel) (by decide +kernel), ab_tb_at 1356 (by decide +kernel) (by decide +kernel), ab_tb_at 104 (by decide +kernel) (by decide +kernel), ab_tb_at 1357 (by decide +kernel) (by decide +kernel), by decide +kernel, by decide⟩
theorem pm_X11_325 : Cond.methodLink RX11 325 yX4_restore ∈ ab_tb := ab_tb_at 1366 (by decide +kernel) (by decide +kernel)
theorem mf_X4_restore : ab_mfV yX4_restore cX4_restore 3 none 2 := ⟨ab_tb_at 1367 (by decide +kernel) (by decide +kernel), ab_tb_at 1368 (by decide +kernel) (by decide +kernel), ab_tb_at 104 (by decide +kernel) (by decide +kernel), ab_tb_at 1369 (by decide +kernel) (by decide +kernel), by decide +kernel, by decide⟩
theorem pf_X12_32 : Cond.fieldLink RX12 32 (TX12 8).1 (TX12 8).2.1 (TX12 8).2.2.1 ∈ ab_tb := ab_tb_at 1428 (by decide +kernel) (by decide +kernel)
theorem lk_X12_32 : ab_lkF RX12 32 12 8 true (.array .int) := ⟨RX12, TX12, 33, tyX12, rfl, by decide, fi_X12, tyX12_ok, nmX12, rfl, rfl, Or.inl pf_X12_32⟩
theorem pf_X12_29 : Cond.fieldLink RX12 29 (TX12 7).1 (TX12 7).2.1 (TX12 7).2.2.1 ∈ ab_tb := ab_tb_at 1427 (by decide +kernel) (by decide +kernel)
theorem lk_X12_29 : ab_lkF RX12 29 12 7 true (.array .int) := ⟨RX12, TX12, 33, tyX12, rfl, by decide, fi_X12, tyX12_ok, nmX12, rfl, rfl, Or.inl pf_X12_29⟩
theorem pf_X12_13 : Cond.fieldLink RX12 13 (TX12 2).1 (TX12 2).2.1 (TX12 2).2.2.1 ∈ ab_tb := ab_tb_at 1422 (by decide +kernel) (by decide +kernel)
theorem lk_X12_13 : ab_lkF RX12 13 12 2 true (.array .int) := ⟨RX12, TX12, 33, tyX12, rfl, by decide, fi_X12, tyX12_ok, nmX12, rfl, rfl, Or.inl pf_X12_13⟩
theorem pm_X12_90 : Cond.methodLink RX12 90 yX12_emit ∈ ab_tb := ab_tb_at 1381 (by decide +kernel) (by decide +kernel)
theorem mf_X12_emit : ab_mfV yX12_emit cX12_emit 2 (some .boolean) 1 := ⟨ab_tb_at 1383 (by decide +kernel) (by decide +kernel), ab_tb_at 36 (by decide +kernel) (by decide +kernel), ab_tb_at 110 (by decide +kernel) (by decide +kernel), ab_tb_at 1384 (by decide +kernel) (by decide +kernel), by decide +kernel, by decide⟩
theorem pm_X12_86 : Cond.methodLink RX12 86 yX12_lifts ∈ ab_tb := ab_tb_at 1389 (by decide +kernel) (by decide +kernel)
theorem mf_X12_lifts : ab_mfS yX12_lifts cX12_lifts 2 none 1 := ⟨ab_tb_at 1390 (by decide +kernel) (by decide +kernel), ab_tb_at 110 (by decide +kernel) (by decide +kernel), ab_tb_at 1391 (by decide +kernel) (by decide +kernel), by decide +kernel, by decide⟩
theorem pf_X12_17 : Cond.fieldLink RX12 17 (TX12 3).1 (TX12 3).2.1 (TX12 3).2.2.1 ∈ ab_tb := ab_tb_at 1423 (by decide +kernel) (by decide +kernel)
theorem lk_X12_17 : ab_lkF RX12 17 12 3 true (.array .int) := ⟨RX12, TX12, 33, tyX12, rfl, by decide, fi_X12, tyX12_ok, nmX12, rfl, rfl, Or.inl pf_X12_17⟩
theorem pf_X12_20 : Cond.fieldLink RX12 20 (TX12 4).1 (TX12 4).2.1 (TX12 4).2.2.1 ∈ ab_tb := ab_tb_at 1424 (by decide +kernel) (by decide +kernel)
theorem lk_X12_20 : ab_lkF RX12 20 12 4 true (.array .int) := ⟨RX12, TX12, 33, tyX12, rfl, by decide, fi_X12, tyX12_ok, nmX12, rfl, rfl, Or.inl pf_X12_20⟩
theorem pf_X12_23 : Cond.fieldLink RX12 23 (TX12 5).1 (TX12 5).2.1 (TX12 5).2.2.1 ∈ ab_tb := ab_tb_at 1425 (by decide +kernel) (by decide +kernel)
theorem lk_X12_23 : ab_lkF RX12 23 12 5 true (.array .int) := ⟨RX12, TX12, 33, tyX12, rfl, by decide, fi_X12, tyX12_ok, nmX12, rfl, rfl, Or.inl pf_X12_23⟩
theorem pf_X12_26 : Cond.fieldLink RX12 26 (TX12 6).1 (TX12 6).2.1 (TX12 6).2.2.1 ∈ ab_tb := ab_tb_at 1426 (by decide +kernel) (by decide +kernel)
theorem lk_X12_26 : ab_lkF RX12 26 12 6 true (.array .int) := ⟨RX12, TX12, 33, tyX12, rfl, by decide, fi_X12, tyX12_ok, nmX12, rfl, rfl, Or.inl pf_X12_26⟩
theorem pf_X12_7 : Cond.fieldLink RX12 7 (TX12 1).1 (TX12 1).2.1 (TX12 1).2.2.1 ∈ ab_tb := ab_tb_at 1421 (by decide +kernel) (by decide +kernel)
theorem lk_X12_7 : ab_lkF RX12 7 12 1 true (.array .long) := ⟨RX12, TX12, 33, tyX12, rfl, by decide, fi_X12, tyX12_ok, nmX12, rfl, rfl, Or.inl pf_X12_7⟩
theorem pm_X12_238 : Cond.methodLink RX12 238 yX12_of ∈ ab_tb := ab_tb_at 1396 (by decide +kernel) (by decide +kernel)
theorem mf_X12_of : ab_mfS yX12_of cX12_of 2 (some .int) 2 := ⟨ab_tb_at 1397 (by decide +kernel) (by decide +kernel), ab_tb_at 110 (by decide +kernel) (by decide +kernel), ab_tb_at 1398 (by decide +kernel) (by decide +kernel), by decide +kernel, by decide⟩
theorem pk_X12_256 : Cond.constantLong RX12 256 (-1) ∈ ab_tb := ab_tb_at 1399 (by decide +kernel) (by decide +kernel)
theorem pm_X12_264 : Cond.methodLink RX12 264 yX12_runs ∈ ab_tb := ab_tb_at 1412 (by decide +kernel) (by decide +kernel)
theorem mf_X12_runs : ab_mfV yX12_runs cX12_runs 2 (some .boolean) 1 := ⟨ab_tb_at 1414 (by decide +kernel) (by decide +kernel), ab_tb_at 42 (by decide +kernel) (by decide +kernel), ab_tb_at 110 (by decide +kernel) (by decide +kernel), ab_tb_at 1415 (by decide +kernel) (by decide +kernel), by decide +kernel, by decide⟩
theorem pm_X12_242 : Cond.methodLink RX12 242 yX12_its ∈ ab_tb := ab_tb_at 1416 (by decide +kernel) (by decide +kernel)
theorem mf_X12_its : ab_mfV yX12_its cX12_its 3 (some .int) 2 := ⟨ab_tb_at 1418 (by decide +kernel) (by decide +kernel), ab_tb_at 43 (by decide +kernel) (by decide +kernel), ab_tb_at 110 (by decide +kernel) (by decide +kernel), ab_tb_at 1419 (by decide +kernel) (by decide +kernel), by decide +kernel, by decide⟩
theorem pm_X12_279 : Cond.methodLink RX12 279 yX12_allCpu ∈ ab_tb := ab_tb_at 1404 (by decide +kernel) (by decide +kernel)
theorem mf_X12_allCpu : ab_mfV yX12_allCpu cX12_allCpu 3 (some .int) 0 := ⟨ab_tb_at 1406 (by decide +kernel) (by decide +kernel), ab_tb_at 40 (by decide +kernel) (by decide +kernel), ab_tb_at 110 (by decide +kernel) (by decide +kernel), ab_tb_at 1407 (by decide +kernel) (by decide +kernel), by decide +kernel, by decide⟩
theorem pm_X12_282 : Cond.methodLink RX12 282 yX12_loadCpu ∈ ab_tb := ab_tb_at 1408 (by decide +kernel) (by decide +kernel)
theorem mf_X12_loadCpu : ab_mfV yX12_loadCpu cX12_loadCpu 3 (some .int) 0 := ⟨ab_tb_at 1410 (by decide +kernel) (by decide +kernel), ab_tb_at 41 (by decide +kernel) (by decide +kernel), ab_tb_at 110 (by decide +kernel) (by decide +kernel), ab_tb_at 1411 (by decide +kernel) (by decide +kernel), by decide +kernel, by decide⟩
theorem pm_X12_258 : Cond.methodLink RX12 258 yX12_setsPrices ∈ ab_tb := ab_tb_at 1400 (by decide +kernel) (by decide +kernel)
theorem mf_X12_setsPrices : ab_mfV yX12_setsPrices cX12_setsPrices 6 none 0 := ⟨ab_tb_at 1402 (by decide +kernel) (by decide +kernel), ab_tb_at 39 (by decide +kernel) (by decide +kernel), ab_tb_at 110 (by decide +kernel) (by decide +kernel), ab_tb_at 1403 (by decide +kernel) (by decide +kernel), by decide +kernel, by decide⟩
theorem pf_X12_261 : Cond.fieldLink RX12 261 (TX12 29).1 (TX12 29).2.1 (TX12 29).2.2.1 ∈ ab_tb := ab_tb_at 1449 (by decide +kernel) (by decide +kernel)
theorem lk_X12_261 : ab_lkF RX12 261 12 29 false .int := ⟨RX12, TX12, 33, tyX12, rfl, by decide, fi_X12, tyX12_ok, nmX12, rfl, rfl, Or.inl pf_X12_261⟩
theorem pf_X12_70 : Cond.fieldLink RX12 70 (TX12 32).1 (TX12 32).2.1 (TX12 32).2.2.1 ∈ ab_tb := ab_tb_at 1452 (by decide +kernel) (by decide +kernel)
theorem lk_X12_70 : ab_lkF RX12 70 12 32 true (.array .boolean) := ⟨RX12, TX12, 33, tyX12, rfl, by decide, fi_X12, tyX12_ok, nmX12, rfl, rfl, Or.inl pf_X12_70⟩
theorem pm_X12_1 : Cond.methodLink RX12 1 Lib.objectInit ∈ ab_tb := ab_tb_at 1376 (by decide +kernel) (by decide +kernel)
theorem pf_X12_35 : Cond.fieldLink RX12 35 (TX12 9).1 (TX12 9).2.1 (TX12 9).2.2.1 ∈ ab_tb := ab_tb_at 1429 (by decide +kernel) (by decide +kernel)
theorem lk_X12_35 : ab_lkF RX12 35 12 9 true (.array .byte) := ⟨RX12, TX12, 33, tyX12, rfl, by decide, fi_X12, tyX12_ok, nmX12, rfl, rfl, Or.inl pf_X12_35⟩
theorem pf_X12_39 : Cond.fieldLink RX12 39 (TX12 17).1 (TX12 17).2.1 (TX12 17).2.2.1 ∈ ab_tb := ab_tb_at 1437 (by decide +kernel) (by decide +kernel)
theorem lk_X12_39 : ab_lkF RX12 39 12 17 false .int := ⟨RX12, TX12, 33, tyX12, rfl, by decide, fi_X12, tyX12_ok, nmX12, rfl, rfl, Or.inl pf_X12_39⟩
theorem pf_X12_43 : Cond.fieldLink RX12 43 (TX12 21).1 (TX12 21).2.1 (TX12 21).2.2.1 ∈ ab_tb := ab_tb_at 1441 (by decide +kernel) (by decide +kernel)
theorem lk_X12_43 : ab_lkF RX12 43 12 21 true (.array .int) := ⟨RX12, TX12, 33, tyX12, rfl, by decide, fi_X12, tyX12_ok, nmX12, rfl, rfl, Or.inl pf_X12_43⟩
theorem pf_X12_46 : Cond.fieldLink RX12 46 (TX12 22).1 (TX12 22).2.1 (TX12 22).2.2.1 ∈ ab_tb := ab_tb_at 1442 (by decide +kernel) (by decide +kernel)
theorem lk_X12_46 : ab_lkF RX12 46 12 22 true (.array .int) := ⟨RX12, TX12, 33, tyX12, rfl, by decide, fi_X12, tyX12_ok, nmX12, rfl, rfl, Or.inl pf_X12_46⟩
theorem pf_X12_49 : Cond.fieldLink RX12 49 (TX12 23).1 (TX12 23).2.1 (TX12 23).2.2.1 ∈ ab_tb := ab_tb_at 1443 (by decide +kernel) (by decide +kernel)
theorem lk_X12_49 : ab_lkF RX12 49 12 23 true (.array .int) := ⟨RX12, TX12, 33, tyX12, rfl, by decide, fi_X12, tyX12_ok, nmX12, rfl, rfl, Or.inl pf_X12_49⟩
theorem pf_X12_52 : Cond.fieldLink RX12 52 (TX12 24).1 (TX12 24).2.1 (TX12 24).2.2.1 ∈ ab_tb := ab_tb_at 1444 (by decide +kernel) (by decide +kernel)
theorem lk_X12_52 : ab_lkF RX12 52 12 24 true (.array .int) := ⟨RX12, TX12, 33, tyX12, rfl, by decide, fi_X12, tyX12_ok, nmX12, rfl, rfl, Or.inl pf_X12_52⟩
theorem pf_X12_55 : Cond.fieldLink RX12 55 (TX12 25).1 (TX12 25).2.1 (TX12 25).2.2.1 ∈ ab_tb := ab_tb_at 1445 (by decide +kernel) (by decide +kernel)
theorem lk_X12_55 : ab_lkF RX12 55 12 25 true (.array .int) := ⟨RX12, TX12, 33, tyX12, rfl, by decide, fi_X12, tyX12_ok, nmX12, rfl, rfl, Or.inl pf_X12_55⟩
theorem pf_X12_58 : Cond.fieldLink RX12 58 (TX12 26).1 (TX12 26).2.1 (TX12 26).2.2.1 ∈ ab_tb := ab_tb_at 1446 (by decide +kernel) (by decide +kernel)
theorem lk_X12_58 : ab_lkF RX12 58 12 26 true (.array .int) := ⟨RX12, TX12, 33, tyX12, rfl, by decide, fi_X12, tyX12_ok, nmX12, rfl, rfl, Or.inl pf_X12_58⟩
theorem pf_X12_61 : Cond.fieldLink RX12 61 (TX12 28).1 (TX12 28).2.1 (TX12 28).2.2.1 ∈ ab_tb := ab_tb_at 1448 (by decide +kernel) (by decide +kernel)
theorem lk_X12_61 : ab_lkF RX12 61 12 28 true (.array .long) := ⟨RX12, TX12, 33, tyX12, rfl, by decide, fi_X12, tyX12_ok, nmX12, rfl, rfl, Or.inl pf_X12_61⟩
theorem pf_X12_64 : Cond.fieldLink RX12 64 (TX12 30).1 (TX12 30).2.1 (TX12 30).2.2.1 ∈ ab_tb := ab_tb_at 1450 (by decide +kernel) (by decide +kernel)
theorem lk_X12_64 : ab_lkF RX12 64 12 30 true (.array .long) := ⟨RX12, TX12, 33, tyX12, rfl, by decide, fi_X12, tyX12_ok, nmX12, rfl, rfl, Or.inl pf_X12_64⟩
theorem pf_X12_67 : Cond.fieldLink RX12 67 (TX12 31).1 (TX12 31).2.1 (TX12 31).2.2.1 ∈ ab_tb := ab_tb_at 1451 (by decide +kernel) (by decide +kernel)
theorem lk_X12_67 : ab_lkF RX12 67 12 31 true (.array .long) := ⟨RX12, TX12, 33, tyX12, rfl, by decide, fi_X12, tyX12_ok, nmX12, rfl, rfl, Or.inl pf_X12_67⟩
theorem pm_X12_74 : Cond.methodLink RX12 74 yX12_clearDraft ∈ ab_tb := ab_tb_at 1377 (by decide +kernel) (by decide +kernel)
theorem mf_X12_clearDraft : ab_mfV yX12_clearDraft cX12_clearDraft 2 none 0 := ⟨ab_tb_at 1379 (by decide +kernel) (by decide +kernel), ab_tb_at 35 (by decide +kernel) (by decide +kernel), ab_tb_at 110 (by decide +kernel) (by decide +kernel), ab_tb_at 1380 (by decide +kernel) (by decide +kernel), by decide +kernel, by decide⟩
theorem pm_X12_77 : Cond.methodLink RX12 77 yX12_liftsAll ∈ ab_tb := ab_tb_at 1385 (by decide +kernel) (by decide +kernel)
theorem mf_X12_liftsAll : ab_mfV yX12_liftsAll cX12_liftsAll 1 none 0 := ⟨ab_tb_at 1387 (by decide +kernel) (by decide +kernel), ab_tb_at 37 (by decide +kernel) (by decide +kernel), ab_tb_at 110 (by decide +kernel) (by decide +kernel), ab_tb_at 1388 (by decide +kernel) (by decide +kernel), by decide +kernel, by decide⟩
theorem pm_X12_80 : Cond.methodLink RX12 80 yX12_begins ∈ ab_tb := ab_tb_at 1392 (by decide +kernel) (by decide +kernel)
theorem mf_X12_begins : ab_mfV yX12_begins cX12_begins 2 none 0 := ⟨ab_tb_at 1394 (by decide +kernel) (by decide +kernel), ab_tb_at 38 (by decide +kernel) (by decide +kernel), ab_tb_at 110 (by decide +kernel) (by decide +kernel), ab_tb_at 1395 (by decide +kernel) (by decide +kernel), by decide +kernel, by decide⟩
theorem pf_X12_83 : Cond.fieldLink RX12 83 (TX12 0).1 (TX12 0).2.1 (TX12 0).2.2.1 ∈ ab_tb := ab_tb_at 1420 (by decide +kernel) (by decide +kernel)
theorem lk_X12_83 : ab_lkF RX12 83 12 0 false .int := ⟨RX12, TX12, 33, tyX12, rfl, by decide, fi_X12, tyX12_ok, nmX12, rfl, rfl, Or.inl pf_X12_83⟩
theorem pf_X12_94 : Cond.fieldLink RX12 94 (TX12 10).1 (TX12 10).2.1 (TX12 10).2.2.1 ∈ ab_tb := ab_tb_at 1430 (by decide +kernel) (by decide +kernel)
theorem lk_X12_94 : ab_lkF RX12 94 12 10 false .int := ⟨RX12, TX12, 33, tyX12, rfl, by decide, fi_X12, tyX12_ok, nmX12, rfl, rfl, Or.inl pf_X12_94⟩
theorem pm_X12_97 : Cond.methodLink RX12 97 yX12_bytesOf ∈ ab_tb := ab_tb_at 1529 (by decide +kernel) (by decide +kernel)
theorem mf_X12_bytesOf : ab_mfV yX12_bytesOf cX12_bytesOf 3 none 1 := ⟨ab_tb_at 1531 (by decide +kernel) (by decide +kernel), ab_tb_at 44 (by decide +kernel) (by decide +kernel), ab_tb_at 110 (by decide +kernel) (by decide +kernel), ab_tb_at 1532 (by decide +kernel) (by decide +kernel), by decide +kernel, by decide⟩
theorem pf_X12_101 : Cond.fieldLink RX12 101 (TX12 11).1 (TX12 11).2.1 (TX12 11).2.2.1 ∈ ab_tb := ab_tb_at 1431 (by decide +kernel) (by decide +kernel)
theorem lk_X12_101 : ab_lkF RX12 101 12 11 false .int := ⟨RX12, TX12, 33, tyX12, rfl, by decide, fi_X12, tyX12_ok, nmX12, rfl, rfl, Or.inl pf_X12_101⟩
theorem pf_X12_117 : Cond.fieldLink RX12 117 (TX12 14).1 (TX12 14).2.1 (TX12 14).2.2.1 ∈ ab_tb := ab_tb_at 1434 (by decide +kernel) (by decide +kernel)
theorem lk_X12_117 : ab_lkF RX12 117 12 14 false .int := ⟨RX12, TX12, 33, tyX12, rfl, by decide, fi_X12, tyX12_ok, nmX12, rfl, rfl, Or.inl pf_X12_117⟩
theorem pf_X12_114 : Cond.fieldLink RX12 114 (TX12 15).1 (TX12 15).2.1 (TX12 15).2.2.1 ∈ ab_tb := ab_tb_at 1435 (by decide +kernel) (by decide +kernel)
theorem lk_X12_114 : ab_lkF RX12 114 12 15 false .int := ⟨RX12, TX12, 33, tyX12, rfl, by decide, fi_X12, tyX12_ok, nmX12, rfl, rfl, Or.inl pf_X12_114⟩
theorem pf_X12_104 : Cond.fieldLink RX12 104 (TX12 13).1 (TX12 13).2.1 (TX12 13).2.2.1 ∈ ab_tb := ab_tb_at 1433 (by decide +kernel) (by decide +kernel)
theorem lk_X12_104 : ab_lkF RX12 104 12 13 false .int := ⟨RX12, TX12, 33, tyX12, rfl, by decide, fi_X12, tyX12_ok, nmX12, rfl, rfl, Or.inl pf_X12_104⟩
theorem pm_X12_107 : Cond.methodLink RX12 107 yX12_byteAt ∈ ab_tb := ab_tb_at 1548 (by decide +kernel) (by decide +kernel)
theorem mf_X12_byteAt : ab_mfV yX12_byteAt cX12_byteAt 2 (some .int) 1 := ⟨ab_tb_at 1550 (by decide +kernel) (by decide +kernel), ab_tb_at 47 (by decide +kernel) (by decide +kernel), ab_tb_at 110 (by decide +kernel) (by decide +kernel), ab_tb_at 1551 (by decide +kernel) (by decide +kernel), by decide +kernel, by decide⟩
theorem pk_X12_128 : Cond.constantLong RX12 128 48 ∈ ab_tb := ab_tb_at 1554 (by decide +kernel) (by decide +kernel)
theorem pk_X12_130 : Cond.constantLong RX12 130 57 ∈ ab_tb := ab_tb_at 1555 (by decide +kernel) (by decide +kernel)
theorem pm_X12_124 : Cond.methodLink RX12 124 yX12_within ∈ ab_tb := ab_tb_at 1537 (by decide +kernel) (by decide +kernel)
theorem mf_X12_within : ab_mfS yX12_within cX12_within 6 (some .boolean) 3 := ⟨ab_tb_at 1538 (by decide +kernel) (by decide +kernel), ab_tb_at 110 (by decide +kernel) (by decide +kernel), ab_tb_at 1539 (by decide +kernel) (by decide +kernel), by decide +kernel, by decide⟩
theorem pf_X12_111 : Cond.fieldLink RX12 111 (TX12 12).1 (TX12 12).2.1 (TX12 12).2.2.1 ∈ ab_tb := ab_tb_at 1432 (by decide +kernel) (by decide +kernel)
theorem lk_X12_111 : ab_lkF RX12 111 12 12 false .int := ⟨RX12, TX12, 33, tyX12, rfl, by decide, fi_X12, tyX12_ok, nmX12, rfl, rfl, Or.inl pf_X12_111⟩
theorem pk_X12_120 : Cond.constantLong RX12 120 97 ∈ ab_tb := ab_tb_at 1552 (by decide +kernel) (by decide +kernel)
theorem pk_X12_122 : Cond.constantLong RX12 122 122 ∈ ab_tb := ab_tb_at 1553 (by decide +kernel) (by decide +kernel)
theorem pm_X12_132 : Cond.methodLink RX12 132 yX12_isSign ∈ ab_tb := ab_tb_at 1556 (by decide +kernel) (by decide +kernel)
theorem mf_X12_isSign : ab_mfS yX12_isSign cX12_isSign 1 (some .boolean) 1 := ⟨ab_tb_at 1557 (by decide +kernel) (by decide +kernel), ab_tb_at 110 (by decide +kernel) (by decide +kernel), ab_tb_at 1558 (by decide +kernel) (by decide +kernel), by decide +kernel, by decide⟩
theorem pm_X12_135 : Cond.methodLink RX12 135 yJ0_length_8abf5 ∈ ab_tb := ab_tb_at 1568 (by decide +kernel) (by decide +kernel)
theorem pm_X12_140 : Cond.methodLink RX12 140 yJ0_charAt_5068e ∈ ab_tb := ab_tb_at 1569 (by decide +kernel) (by decide +kernel)
theorem pf_X12_144 : Cond.fieldLink RX12 144 (TX12 16).1 (TX12 16).2.1 (TX12 16).2.2.1 ∈ ab_tb := ab_tb_at 1436 (by decide +kernel) (by decide +kernel)
theorem lk_X12_144 : ab_lkF RX12 144 12 16 false .int := ⟨RX12, TX12, 33, tyX12, rfl, by decide, fi_X12, tyX12_ok, nmX12, rfl, rfl, Or.inl pf_X12_144⟩
theorem pf_X12_150 : Cond.fieldLink RX12 150 (TX12 18).1 (TX12 18).2.1 (TX12 18).2.2.1 ∈ ab_tb := ab_tb_at 1438 (by decide +kernel) (by decide +kernel)
theorem lk_X12_150 : ab_lkF RX12 150 12 18 false .int := ⟨RX12, TX12, 33, tyX12, rfl, by decide, fi_X12, tyX12_ok, nmX12, rfl, rfl, Or.inl pf_X12_150⟩
theorem pm_X12_153 : Cond.methodLink RX12 153 yX12_advance ∈ ab_tb := ab_tb_at 1544 (by decide +kernel) (by decide +kernel)
theorem mf_X12_advance : ab_mfV yX12_advance cX12_advance 2 none 0 := ⟨ab_tb_at 1546 (by decide +kernel) (by decide +kernel), ab_tb_at 46 (by decide +kernel) (by decide +kernel), ab_tb_at 110 (by decide +kernel) (by decide +kernel), ab_tb_at 1547 (by decide +kernel) (by decide +kernel), by decide +kernel, by decide⟩
theorem pm_X12_147 : Cond.methodLink RX12 147 yX12_fails ∈ ab_tb := ab_tb_at 1578 (by decide +kernel) (by decide +kernel)
theorem mf_X12_fails : ab_mfV yX12_fails cX12_fails 2 (some .boolean) 1 := ⟨ab_tb_at 1580 (by decide +kernel) (by decide +kernel), ab_tb_at 52 (by decide +kernel) (by decide +kernel), ab_tb_at 110 (by decide +kernel) (by decide +kernel), ab_tb_at 1581 (by decide +kernel) (by decide +kernel), by decide +kernel, by decide⟩
theorem pm_X12_163 : Cond.methodLink RX12 163 yX12_starts ∈ ab_tb := ab_tb_at 1574 (by decide +kernel) (by decide +kernel)
theorem mf_X12_starts : ab_mfV yX12_starts cX12_starts 3 (some .boolean) 2 := ⟨ab_tb_at 1576 (by decide +kernel) (by decide +kernel), ab_tb_at 51 (by decide +kernel) (by decide +kernel), ab_tb_at 110 (by decide +kernel) (by decide +kernel), ab_tb_at 1577 (by decide +kernel) (by decide +kernel), by decide +kernel, by decide⟩
theorem pf_X12_156 : Cond.fieldLink RX12 156 (TX12 19).1 (TX12 19).2.1 (TX12 19).2.2.1 ∈ ab_tb := ab_tb_at 1439 (by decide +kernel) (by decide +kernel)
theorem lk_X12_156 : ab_lkF RX12 156 12 19 false .int := ⟨RX12, TX12, 33, tyX12, rfl, by decide, fi_X12, tyX12_ok, nmX12, rfl, rfl, Or.inl pf_X12_156⟩
theorem pm_X12_159 : Cond.methodLink RX12 159 yX12_has ∈ ab_tb := ab_tb_at 1606 (by decide +kernel) (by decide +kernel)
theorem mf_X12_has : ab_mfS yX12_has cX12_has 2 (some .boolean) 2 := ⟨ab_tb_at 1607 (by decide +kernel) (by decide +kernel), ab_tb_at 110 (by decide +kernel) (by decide +kernel), ab_tb_at 1608 (by decide +kernel) (by decide +kernel), by decide +kernel, by decide⟩
theorem pm_X12_167 : Cond.methodLink RX12 167 yX12_takes ∈ ab_tb := ab_tb_at 1586 (by decide +kernel) (by decide +kernel)
theorem mf_X12_takes : ab_mfV yX12_takes cX12_takes 3 (some .boolean) 2 := ⟨ab_tb_at 1588 (by decide +kernel) (by decide +kernel), ab_tb_at 54 (by decide +kernel) (by decide +kernel), ab_tb_at 110 (by decide +kernel) (by decide +kernel), ab_tb_at 1589 (by decide +kernel) (by decide +kernel), by decide +kernel, by decide⟩
theorem pm_X12_170 : Cond.methodLink RX12 170 yX12_isSignHere ∈ ab_tb := ab_tb_at 1628 (by decide +kernel) (by decide +kernel)
theorem mf_X12_isSignHere : ab_mfV yX12_isSignHere cX12_isSignHere 2 (some .boolean) 1 := ⟨ab_tb_at 1630 (by decide +kernel) (by decide +kernel), ab_tb_at 62 (by decide +kernel) (by decide +kernel), ab_tb_at 110 (by decide +kernel) (by decide +kernel), ab_tb_at 1631 (by decide +kernel) (by decide +kernel), by decide +kernel, by decide⟩
theorem pm_X12_173 : Cond.methodLink RX12 173 yX12_lays ∈ ab_tb := ab_tb_at 1582 (by decide +kernel) (by decide +kernel)
theorem mf_X12_lays : ab_mfV yX12_lays cX12_lays 5 (some .boolean) 4 := ⟨ab_tb_at 1584 (by decide +kernel) (by decide +kernel), ab_tb_at 53 (by decide +kernel) (by decide +kernel), ab_tb_at 110 (by decide +kernel) (by decide +kernel), ab_tb_at 1585 (by decide +kernel) (by decide +kernel), by decide +kernel, by decide⟩
theorem pm_X12_179 : Cond.methodLink RX12 179 yX12_isWord ∈ ab_tb := ab_tb_at 1564 (by decide +kernel) (by decide +kernel)
theorem mf_X12_isWord : ab_mfV yX12_isWord cX12_isWord 4 (some .boolean) 1 := ⟨ab_tb_at 1566 (by decide +kernel) (by decide +kernel), ab_tb_at 49 (by decide +kernel) (by decide +kernel), ab_tb_at 110 (by decide +kernel) (by decide +kernel), ab_tb_at 1567 (by decide +kernel) (by decide +kernel), by decide +kernel, by decide⟩
theorem pf_X12_213 : Cond.fieldLink RX12 213 (TX12 20).1 (TX12 20).2.1 (TX12 20).2.2.1 ∈ ab_tb := ab_tb_at 1440 (by decide +kernel) (by decide +kernel)
theorem lk_X12_213 : ab_lkF RX12 213 12 20 false .int := ⟨RX12, TX12, 33, tyX12, rfl, by decide, fi_X12, tyX12_ok, nmX12, rfl, rfl, Or.inl pf_X12_213⟩
theorem pm_X12_216 : Cond.methodLink RX12 216 yX12_sum ∈ ab_tb := ab_tb_at 1616 (by decide +kernel) (by decide +kernel)
theorem mf_X12_sum : ab_mfV yX12_sum cX12_sum 2 (some .boolean) 0 := ⟨ab_tb_at 1618 (by decide +kernel) (by decide +kernel), ab_tb_at 59 (by decide +kernel) (by decide +kernel), ab_tb_at 110 (by decide +kernel) (by decide +kernel), ab_tb_at 1619 (by decide +kernel) (by decide +kernel), by decide +kernel, by decide⟩
theorem pm_X12_232 : Cond.methodLink RX12 232 yX12_closes ∈ ab_tb := ab_tb_at 1632 (by decide +kernel) (by decide +kernel)
theorem mf_X12_closes : ab_mfV yX12_closes cX12_closes 2 (some .boolean) 1 := ⟨ab_tb_at 1634 (by decide +kernel) (by decide +kernel), ab_tb_at 63 (by decide +kernel) (by decide +kernel), ab_tb_at 110 (by decide +kernel) (by decide +kernel), ab_tb_at 1635 (by decide +kernel) (by decide +kernel), by decide +kernel, by decide⟩
theorem pm_X12_235 : Cond.methodLink RX12 235 yX12_nameHere ∈ ab_tb := ab_tb_at 1636 (by decide +kernel) (by decide +kernel)
theorem mf_X12_nameHere : ab_mfV yX12_nameHere cX12_nameHere 1 (some .int) 0 := ⟨ab_tb_at 1638 (by decide +kernel) (by decide +kernel), ab_tb_at 64 (by decide +kernel) (by decide +kernel), ab_tb_at 110 (by decide +kernel) (by decide +kernel), ab_tb_at 1639 (by decide +kernel) (by decide +kernel), by decide +kernel, by decide⟩
theorem pm_X12_220 : Cond.methodLink RX12 220 yX12_term ∈ ab_tb := ab_tb_at 1620 (by decide +kernel) (by decide +kernel)
theorem mf_X12_term : ab_mfV yX12_term cX12_term 2 (some .boolean) 0 := ⟨ab_tb_at 1622 (by decide +kernel) (by decide +kernel), ab_tb_at 60 (by decide +kernel) (by decide +kernel), ab_tb_at 110 (by decide +kernel) (by decide +kernel), ab_tb_at 1623 (by decide +kernel) (by decide +kernel), by decide +kernel, by decide⟩
theorem pm_X12_223 : Cond.methodLink RX12 223 yX12_factor ∈ ab_tb := ab_tb_at 1624 (by decide +kernel) (by decide +kernel)
theorem mf_X12_factor : ab_mfV yX12_factor cX12_factor 2 (some .boolean) 0 := ⟨ab_tb_at 1626 (by decide +kernel) (by decide +kernel), ab_tb_at 61 (by decide +kernel) (by decide +kernel), ab_tb_at 110 (by decide +kernel) (by decide +kernel), ab_tb_at 1627 (by decide +kernel) (by decide +kernel), by decide +kernel, by decide⟩
theorem pm_X12_200 : Cond.methodLink RX12 200 yX12_once ∈ ab_tb := ab_tb_at 1602 (by decide +kernel) (by decide +kernel)
theorem mf_X12_once : ab_mfV yX12_once cX12_once 2 (some .boolean) 1 := ⟨ab_tb_at 1604 (by decide +kernel) (by decide +kernel), ab_tb_at 57 (by decide +kernel) (by decide +kernel), ab_tb_at 110 (by decide +kernel) (by decide +kernel), ab_tb_at 1605 (by decide +kernel) (by decide +kernel), by decide +kernel, by decide⟩
theorem pm_X12_203 : Cond.methodLink RX12 203 yX12_sets ∈ ab_tb := ab_tb_at 1609 (by decide +kernel) (by decide +kernel)
theorem mf_X12_sets : ab_mfV yX12_sets cX12_sets 4 (some .boolean) 3 := ⟨ab_tb_at 1611 (by decide +kernel) (by decide +kernel), ab_tb_at 58 (by decide +kernel) (by decide +kernel), ab_tb_at 110 (by decide +kernel) (by decide +kernel), ab_tb_at 1612 (by decide +kernel) (by decide +kernel), by decide +kernel, by decide⟩
theorem pm_X12_183 : Cond.methodLink RX12 183 yX12_oneMore ∈ ab_tb := ab_tb_at 1570 (by decide +kernel) (by decide +kernel)
theorem mf_X12_oneMore : ab_mfV yX12_oneMore cX12_oneMore 3 (some .boolean) 2 := ⟨ab_tb_at 1572 (by decide +kernel) (by decide +kernel), ab_tb_at 50 (by decide +kernel) (by decide +kernel), ab_tb_at 110 (by decide +kernel) (by decide +kernel), ab_tb_at 1573 (by decide +kernel) (by decide +kernel), by decide +kernel, by decide⟩
theorem pm_X12_195 : Cond.methodLink RX12 195 yX12_reserveLine ∈ ab_tb := ab_tb_at 1597 (by decide +kernel) (by decide +kernel)
theorem mf_X12_reserveLine : ab_mfV yX12_reserveLine cX12_reserveLine 2 (some .boolean) 1 := ⟨ab_tb_at 1599 (by decide +kernel) (by decide +kernel), ab_tb_at 56 (by decide +kernel) (by decide +kernel), ab_tb_at 110 (by decide +kernel) (by decide +kernel), ab_tb_at 1600 (by decide +kernel) (by decide +kernel), by decide +kernel, by decide⟩
theorem pm_X12_186 : Cond.methodLink RX12 186 yX12_counts ∈ ab_tb := ab_tb_at 1590 (by decide +kernel) (by decide +kernel)
theorem mf_X12_counts : ab_mfV yX12_counts cX12_counts 2 (some .boolean) 1 := ⟨ab_tb_at 1592 (by decide +kernel) (by decide +kernel), ab_tb_at 55 (by decide +kernel) (by decide +kernel), ab_tb_at 110 (by decide +kernel) (by decide +kernel), ab_tb_at 1593 (by decide +kernel) (by decide +kernel), by decide +kernel, by decide⟩
theorem pm_X12_245 : Cond.methodLink RX12 245 yX12_joined ∈ ab_tb := ab_tb_at 1837 (by decide +kernel) (by decide +kernel)
theorem mf_X12_joined : ab_mfS yX12_joined cX12_joined 3 (some .int) 3 := ⟨ab_tb_at 1838 (by decide +kernel) (by decide +kernel), ab_tb_at 110 (by decide +kernel) (by decide +kernel), ab_tb_at 1839 (by decide +kernel) (by decide +kernel), by decide +kernel, by decide⟩
theorem pm_X12_253 : Cond.methodLink RX12 253 yX12_statement ∈ ab_tb := ab_tb_at 1559 (by decide +kernel) (by decide +kernel)
theorem mf_X12_statement : ab_mfV yX12_statement cX12_statement 2 (some .boolean) 0 := ⟨ab_tb_at 1561 (by decide +kernel) (by decide +kernel), ab_tb_at 48 (by decide +kernel) (by decide +kernel), ab_tb_at 110 (by decide +kernel) (by decide +kernel), ab_tb_at 1562 (by decide +kernel) (by decide +kernel), by decide +kernel, by decide⟩
theorem pm_X12_249 : Cond.methodLink RX12 249 yX12_throwsIf ∈ ab_tb := ab_tb_at 1540 (by decide +kernel) (by decide +kernel)
theorem mf_X12_throwsIf : ab_mfV yX12_throwsIf cX12_throwsIf 3 (some .boolean) 2 := ⟨ab_tb_at 1542 (by decide +kernel) (by decide +kernel), ab_tb_at 45 (by decide +kernel) (by decide +kernel), ab_tb_at 110 (by decide +kernel) (by decide +kernel), ab_tb_at 1543 (by decide +kernel) (by decide +kernel), by decide +kernel, by decide⟩
theorem pm_X12_267 : Cond.methodLink RX12 267 yX12_isOn ∈ ab_tb := ab_tb_at 1672 (by decide +kernel) (by decide +kernel)
theorem mf_X12_isOn : ab_mfV yX12_isOn cX12_isOn 3 (some .boolean) 2 := ⟨ab_tb_at 1674 (by decide +kernel) (by decide +kernel), ab_tb_at 68 (by decide +kernel) (by decide +kernel), ab_tb_at 110 (by decide +kernel) (by decide +kernel), ab_tb_at 1675 (by decide +kernel) (by decide +kernel), by decide +kernel, by decide⟩
theorem pm_X12_270 : Cond.methodLink RX12 270 yX12_freeOf ∈ ab_tb := ab_tb_at 1668 (by decide +kernel) (by decide +kernel)
theorem mf_X12_freeOf : ab_mfV yX12_freeOf cX12_freeOf 5 (some .int) 2 := ⟨ab_tb_at 1670 (by decide +kernel) (by decide +kernel), ab_tb_at 67 (by decide +kernel) (by decide +kernel), ab_tb_at 110 (by decide +kernel) (by decide +kernel), ab_tb_at 1671 (by decide +kernel) (by decide +kernel), by decide +kernel, by decide⟩
theorem pm_X12_276 : Cond.methodLink RX12 276 yX12_fits ∈ ab_tb := ab_tb_at 1705 (by decide +kernel) (by decide +kernel)
theorem mf_X12_fits : ab_mfV yX12_fits cX12_fits 3 (some .boolean) 2 := ⟨ab_tb_at 1707 (by decide +kernel) (by decide +kernel), ab_tb_at 72 (by decide +kernel) (by decide +kernel), ab_tb_at 110 (by decide +kernel) (by decide +kernel), ab_tb_at 1708 (by decide +kernel) (by decide +kernel), by decide +kernel, by decide⟩
theorem pk_X12_275 : Cond.constant RX12 275 2147483647 ∈ ab_tb := ab_tb_at 1704 (by decide +kernel) (by decide +kernel)
theorem pm_X12_285 : Cond.methodLink RX12 285 yX12_no ∈ ab_tb := ab_tb_at 1664 (by decide +kernel) (by decide +kernel)
theorem mf_X12_no : ab_mfV yX12_no cX12_no 4 (some .boolean) 2 := ⟨ab_tb_at 1666 (by decide +kernel) (by decide +kernel), ab_tb_at 66 (by decide +kernel) (by decide +kernel), ab_tb_at 110 (by decide +kernel) (by decide +kernel), ab_tb_at 1667 (by decide +kernel) (by decide +kernel), by decide +kernel, by decide⟩
theorem pm_X12_289 : Cond.methodLink RX12 289 yX12_noHost ∈ ab_tb := ab_tb_at 1660 (by decide +kernel) (by decide +kernel)
theorem mf_X12_noHost : ab_mfV yX12_noHost cX12_noHost 2 (some .boolean) 1 := ⟨ab_tb_at 1662 (by decide +kernel) (by decide +kernel), ab_tb_at 65 (by decide +kernel) (by decide +kernel), ab_tb_at 110 (by decide +kernel) (by decide +kernel), ab_tb_at 1663 (by decide +kernel) (by decide +kernel), by decide +kernel, by decide⟩
theorem pm_X12_292 : Cond.methodLink RX12 292 yX12_onHost ∈ ab_tb := ab_tb_at 1680 (by decide +kernel) (by decide +kernel)
theorem mf_X12_onHost : ab_mfV yX12_onHost cX12_onHost 4 (some .int) 1 := ⟨ab_tb_at 1682 (by decide +kernel) (by decide +kernel), ab_tb_at 69 (by decide +kernel) (by decide +kernel), ab_tb_at 110 (by decide +kernel) (by decide +kernel), ab_tb_at 1683 (by decide +kernel) (by decide +kernel), by decide +kernel, by decide⟩
theorem pm_X12_295 : Cond.methodLink RX12 295 yX12_noType ∈ ab_tb := ab_tb_at 1692 (by decide +kernel) (by decide +kernel)
theorem mf_X12_noType : ab_mfV yX12_noType cX12_noType 2 (some .boolean) 1 := ⟨ab_tb_at 1694 (by decide +kernel) (by decide +kernel), ab_tb_at 70 (by decide +kernel) (by decide +kernel), ab_tb_at 110 (by decide +kernel) (by decide +kernel), ab_tb_at 1695 (by decide +kernel) (by decide +kernel), by decide +kernel, by decide⟩
theorem pm_X12_298 : Cond.methodLink RX12 298 yX12_bestFor ∈ ab_tb := ab_tb_at 1700 (by decide +kernel) (by decide +kernel)
theorem mf_X12_bestFor : ab_mfV yX12_bestFor cX12_bestFor 6 (some .int) 1 := ⟨ab_tb_at 1702 (by decide +kernel) (by decide +kernel), ab_tb_at 71 (by decide +kernel) (by decide +kernel), ab_tb_at 110 (by decide +kernel) (by decide +kernel), ab_tb_at 1703 (by decide +kernel) (by decide +kernel), by decide +kernel, by decide⟩
theorem pm_X12_301 : Cond.methodLink RX12 301 yX12_runningOnes ∈ ab_tb := ab_tb_at 1717 (by decide +kernel) (by decide +kernel)
theorem mf_X12_runningOnes : ab_mfV yX12_runningOnes cX12_runningOnes 3 (some .int) 0 := ⟨ab_tb_at 1719 (by decide +kernel) (by decide +kernel), ab_tb_at 73 (by decide +kernel) (by decide +kernel), ab_tb_at 110 (by decide +kernel) (by decide +kernel), ab_tb_at 1720 (by decide +kernel) (by decide +kernel), by decide +kernel, by decide⟩
theorem pm_X12_304 : Cond.methodLink RX12 304 yX12_noInstance ∈ ab_tb := ab_tb_at 1725 (by decide +kernel) (by decide +kernel)
theorem mf_X12_noInstance : ab_mfV yX12_noInstance cX12_noInstance 2 (some .boolean) 1 := ⟨ab_tb_at 1727 (by decide +kernel) (by decide +kernel), ab_tb_at 74 (by decide +kernel) (by decide +kernel), ab_tb_at 110 (by decide +kernel) (by decide +kernel), ab_tb_at 1728 (by decide +kernel) (by decide +kernel), by decide +kernel, by decide⟩
theorem pm_X12_307 : Cond.methodLink RX12 307 yX12_bidAt ∈ ab_tb := ab_tb_at 1757 (by decide +kernel) (by decide +kernel)
theorem mf_X12_bidAt : ab_mfV yX12_bidAt cX12_bidAt 2 (some .int) 1 := ⟨ab_tb_at 1759 (by decide +kernel) (by decide +kernel), ab_tb_at 76 (by decide +kernel) (by decide +kernel), ab_tb_at 110 (by decide +kernel) (by decide +kernel), ab_tb_at 1760 (by decide +kernel) (by decide +kernel), by decide +kernel, by decide⟩
theorem pm_X12_310 : Cond.methodLink RX12 310 yX12_requestAt ∈ ab_tb := ab_tb_at 1753 (by decide +kernel) (by decide +kernel)
theorem mf_X12_requestAt : ab_mfV yX12_requestAt cX12_requestAt 5 (some .int) 1 := ⟨ab_tb_at 1755 (by decide +kernel) (by decide +kernel), ab_tb_at 75 (by decide +kernel) (by decide +kernel), ab_tb_at 110 (by decide +kernel) (by decide +kernel), ab_tb_at 1756 (by decide +kernel) (by decide +kernel), by decide +kernel, by decide⟩
theorem pk_X12_313 : Cond.constantLong RX12 313 86 ∈ ab_tb := ab_tb_at 1872 (by decide +kernel) (by decide +kernel)
theorem pk_X12_315 : Cond.constantLong RX12 315 3 ∈ ab_tb := ab_tb_at 1873 (by decide +kernel) (by decide +kernel)
theorem pm_X12_320 : Cond.methodLink RX12 320 yX12_regulars ∈ ab_tb := ab_tb_at 1785 (by decide +kernel) (by decide +kernel)
theorem mf_X12_regulars : ab_mfV yX12_regulars cX12_regulars 5 (some .int) 2 := ⟨ab_tb_at 1787 (by decide +kernel) (by decide +kernel), ab_tb_at 81 (by decide +kernel) (by decide +kernel), ab_tb_at 110 (by decide +kernel) (by decide +kernel), ab_tb_at 1788 (by decide +kernel) (by decide +kernel), by decide +kernel, by decide⟩
theorem pm_X12_317 : Cond.methodLink RX12 317 yX12_isActive ∈ ab_tb := ab_tb_at 1777 (by decide +kernel) (by decide +kernel)
theorem mf_X12_isActive : ab_mfV yX12_isActive cX12_isActive 2 (some .boolean) 1 := ⟨ab_tb_at 1779 (by decide +kernel) (by decide +kernel), ab_tb_at 79 (by decide +kernel) (by decide +kernel), ab_tb_at 110 (by decide +kernel) (by decide +kernel), ab_tb_at 1780 (by decide +kernel) (by decide +kernel), by decide +kernel, by decide⟩
theorem pm_X12_326 : Cond.methodLink RX12 326 yX12_coveredBy ∈ ab_tb := ab_tb_at 1789 (by decide +kernel) (by decide +kernel)
theorem mf_X12_coveredBy : ab_mfV yX12_coveredBy cX12_coveredBy 5 (some .int) 2 := ⟨ab_tb_at 1791 (by decide +kernel) (by decide +kernel), ab_tb_at 82 (by decide +kernel) (by decide +kernel), ab_tb_at 110 (by decide +kernel) (by decide +kernel), ab_tb_at 1792 (by decide +kernel) (by decide +kernel), by decide +kernel, by decide⟩
theorem pm_X12_323 : Cond.methodLink RX12 323 yX12_payment ∈ ab_tb := ab_tb_at 1781 (by decide +kernel) (by decide +kernel)
theorem mf_X12_payment : ab_mfV yX12_payment cX12_payment 2 (some .int) 1 := ⟨ab_tb_at 1783 (by decide +kernel) (by decide +kernel), ab_tb_at 80 (by decide +kernel) (by decide +kernel), ab_tb_at 110 (by decide +kernel) (by decide +kernel), ab_tb_at 1784 (by decide +kernel) (by decide +kernel), by decide +kernel, by decide⟩
theorem pm_X12_329 : Cond.methodLink RX12 329 yX12_noTenant ∈ ab_tb := ab_tb_at 1765 (by decide +kernel) (by decide +kernel)
theorem mf_X12_noTenant : ab_mfV yX12_noTenant cX12_noTenant 2 (some .boolean) 1 := ⟨ab_tb_at 1767 (by decide +kernel) (by decide +kernel), ab_tb_at 77 (by decide +kernel) (by decide +kernel), ab_tb_at 110 (by decide +kernel) (by decide +kernel), ab_tb_at 1768 (by decide +kernel) (by decide +kernel), by decide +kernel, by decide⟩
theorem pm_X12_332 : Cond.methodLink RX12 332 yX12_billOf ∈ ab_tb := ab_tb_at 1773 (by decide +kernel) (by decide +kernel)
theorem mf_X12_billOf : ab_mfV yX12_billOf cX12_billOf 4 (some .int) 1 := ⟨ab_tb_at 1775 (by decide +kernel) (by decide +kernel), ab_tb_at 78 (by decide +kernel) (by decide +kernel), ab_tb_at 110 (by decide +kernel) (by decide +kernel), ab_tb_at 1776 (by decide +kernel) (by decide +kernel), by decide +kernel, by decide⟩
theorem pk_X12_335 : Cond.constantLong RX12 335 100 ∈ ab_tb := ab_tb_at 1805 (by decide +kernel) (by decide +kernel)
theorem pm_X12_337 : Cond.methodLink RX12 337 yX12_isOver ∈ ab_tb := ab_tb_at 1801 (by decide +kernel) (by decide +kernel)
theorem mf_X12_isOver : ab_mfV yX12_isOver cX12_isOver 2 (some .boolean) 1 := ⟨ab_tb_at 1803 (by decide +kernel) (by decide +kernel), ab_tb_at 83 (by decide +kernel) (by decide +kernel), ab_tb_at 110 (by decide +kernel) (by decide +kernel), ab_tb_at 1804 (by decide +kernel) (by decide +kernel), by decide +kernel, by decide⟩
theorem pm_X12_340 : Cond.methodLink RX12 340 yX12_addsHost ∈ ab_tb := ab_tb_at 1814 (by decide +kernel) (by decide +kernel)
theorem mf_X12_addsHost : ab_mfV yX12_addsHost cX12_addsHost 7 none 2 := ⟨ab_tb_at 1816 (by decide +kernel) (by decide +kernel), ab_tb_at 84 (by decide +kernel) (by decide +kernel), ab_tb_at 110 (by decide +kernel) (by decide +kernel), ab_tb_at 1817 (by decide +kernel) (by decide +kernel), by decide +kernel, by decide⟩
theorem pm_X12_347 : Cond.methodLink RX12 347 yX12_bits ∈ ab_tb := ab_tb_at 1826 (by decide +kernel) (by decide +kernel)
theorem mf_X12_bits : ab_mfS yX12_bits cX12_bits 3 (some .int) 1 := ⟨ab_tb_at 1827 (by decide +kernel) (by decide +kernel), ab_tb_at 110 (by decide +kernel) (by decide +kernel), ab_tb_at 1828 (by decide +kernel) (by decide +kernel), by decide +kernel, by decide⟩
theorem pm_X12_344 : Cond.methodLink RX12 344 yX12_bidsWithout ∈ ab_tb := ab_tb_at 1822 (by decide +kernel) (by decide +kernel)
theorem mf_X12_bidsWithout : ab_mfV yX12_bidsWithout cX12_bidsWithout 8 (some .int) 3 := ⟨ab_tb_at 1824 (by decide +kernel) (by decide +kernel), ab_tb_at 85 (by decide +kernel) (by decide +kernel), ab_tb_at 110 (by decide +kernel) (by decide +kernel), ab_tb_at 1825 (by decide +kernel) (by decide +kernel), by decide +kernel, by decide⟩
theorem pm_X12_350 : Cond.methodLink RX12 350 yX12_costOf ∈ ab_tb := ab_tb_at 1833 (by decide +kernel) (by decide +kernel)
theorem mf_X12_costOf : ab_mfV yX12_costOf cX12_costOf 5 (some .int) 1 := ⟨ab_tb_at 1835 (by decide +kernel) (by decide +kernel), ab_tb_at 86 (by decide +kernel) (by decide +kernel), ab_tb_at 110 (by decide +kernel) (by decide +kernel), ab_tb_at 1836 (by decide +kernel) (by decide +kernel), by decide +kernel, by decide⟩
theorem pm_X12_353 : Cond.methodLink RX12 353 yX12_drains ∈ ab_tb := ab_tb_at 1844 (by decide +kernel) (by decide +kernel)
theorem mf_X12_drains : ab_mfV yX12_drains cX12_drains 7 (some .boolean) 3 := ⟨ab_tb_at 1846 (by decide +kernel) (by decide +kernel), ab_tb_at 87 (by decide +kernel) (by decide +kernel), ab_tb_at 110 (by decide +kernel) (by decide +kernel), ab_tb_at 1847 (by decide +kernel) (by decide +kernel), by decide +kernel, by decide⟩
theorem pm_X12_362 : Cond.methodLink RX12 362 yX12_beginsOne ∈ ab_tb := ab_tb_at 1864 (by decide +kernel) (by decide +kernel)
theorem mf_X12_beginsOne : ab_mfV yX12_beginsOne cX12_beginsOne 6 (some .int) 4 := ⟨ab_tb_at 1866 (by decide +kernel) (by decide +kernel), ab_tb_at 90 (by decide +kernel) (by decide +kernel), ab_tb_at 110 (by decide +kernel) (by decide +kernel), ab_tb_at 1867 (by decide +kernel) (by decide +kernel), by decide +kernel, by decide⟩
theorem pm_X12_366 : Cond.methodLink RX12 366 yX12_dropsRequest ∈ ab_tb := ab_tb_at 1868 (by decide +kernel) (by decide +kernel)
theorem mf_X12_dropsRequest : ab_mfV yX12_dropsRequest cX12_dropsRequest 3 none 1 := ⟨ab_tb_at 1870 (by decide +kernel) (by decide +kernel), ab_tb_at 91 (by decide +kernel) (by decide +kernel), ab_tb_at 110 (by decide +kernel) (by decide +kernel), ab_tb_at 1871 (by decide +kernel) (by decide +kernel), by decide +kernel, by decide⟩
theorem pm_X12_359 : Cond.methodLink RX12 359 yX12_beginsRequest ∈ ab_tb := ab_tb_at 1860 (by decide +kernel) (by decide +kernel)
theorem mf_X12_beginsRequest : ab_mfV yX12_beginsRequest cX12_beginsRequest 6 (some .boolean) 1 := ⟨ab_tb_at 1862 (by decide +kernel) (by decide +kernel), ab_tb_at 89 (by decide +kernel) (by decide +kernel), ab_tb_at 110 (by decide +kernel) (by decide +kernel), ab_tb_at 1863 (by decide +kernel) (by decide +kernel), by decide +kernel, by decide⟩
theorem pf_X12_356 : Cond.fieldLink RX12 356 (TX12 27).1 (TX12 27).2.1 (TX12 27).2.2.1 ∈ ab_tb := ab_tb_at 1447 (by decide +kernel) (by decide +kernel)
theorem lk_X12_356 : ab_lkF RX12 356 12 27 false .int := ⟨RX12, TX12, 33, tyX12, rfl, by decide, fi_X12, tyX12_ok, nmX12, rfl, rfl, Or.inl pf_X12_356⟩
theorem pm_X12_371 : Cond.methodLink RX12 371 yX12_copies ∈ ab_tb := ab_tb_at 1853 (by decide +kernel) (by decide +kernel)
theorem mf_X12_copies : ab_mfS yX12_copies cX12_copies 6 none 5 := ⟨ab_tb_at 1854 (by decide +kernel) (by decide +kernel), ab_tb_at 110 (by decide +kernel) (by decide +kernel), ab_tb_at 1855 (by decide +kernel) (by decide +kernel), by decide +kernel, by decide⟩
theorem pm_X12_375 : Cond.methodLink RX12 375 yX12_hour ∈ ab_tb := ab_tb_at 1856 (by decide +kernel) (by decide +kernel)
theorem mf_X12_hour : ab_mfV yX12_hour cX12_hour 4 none 0 := ⟨ab_tb_at 1858 (by decide +kernel) (by decide +kernel), ab_tb_at 88 (by decide +kernel) (by decide +kernel), ab_tb_at 110 (by decide +kernel) (by decide +kernel), ab_tb_at 1859 (by decide +kernel) (by decide +kernel), by decide +kernel, by decide⟩
theorem pk_X12_369 : Cond.constantLong RX12 369 200 ∈ ab_tb := ab_tb_at 1852 (by decide +kernel) (by decide +kernel)
theorem pm_X12_382 : Cond.methodLink RX12 382 yX12_keeps ∈ ab_tb := ab_tb_at 1884 (by decide +kernel) (by decide +kernel)
theorem mf_X12_keeps : ab_mfV yX12_keeps cX12_keeps 1 none 0 := ⟨ab_tb_at 1886 (by decide +kernel) (by decide +kernel), ab_tb_at 92 (by decide +kernel) (by decide +kernel), ab_tb_at 110 (by decide +kernel) (by decide +kernel), ab_tb_at 1887 (by decide +kernel) (by decide +kernel), by decide +kernel, by decide⟩
theorem pk_X12_380 : Cond.constantLong RX12 380 9999 ∈ ab_tb := ab_tb_at 1883 (by decide +kernel) (by decide +kernel)
theorem pk_X12_378 : Cond.constantLong RX12 378 500 ∈ ab_tb := ab_tb_at 1882 (by decide +kernel) (by decide +kernel)
theorem pk_X12_385 : Cond.constantLong RX12 385 10 ∈ ab_tb := ab_tb_at 1896 (by decide +kernel) (by decide +kernel)
theorem pm_X12_387 : Cond.methodLink RX12 387 yX12_moves ∈ ab_tb := ab_tb_at 1913 (by decide +kernel) (by decide +kernel)
theorem mf_X12_moves : ab_mfV yX12_moves cX12_moves 4 (some .int) 2 := ⟨ab_tb_at 1915 (by decide +kernel) (by decide +kernel), ab_tb_at 93 (by decide +kernel) (by decide +kernel), ab_tb_at 110 (by decide +kernel) (by decide +kernel), ab_tb_at 1916 (by decide +kernel) (by decide +kernel), by decide +kernel, by decide⟩
theorem pm_X12_390 : Cond.methodLink RX12 390 yX12_noSlot ∈ ab_tb := ab_tb_at 1929 (by decide +kernel) (by decide +kernel)
theorem mf_X12_noSlot : ab_mfV yX12_noSlot cX12_noSlot 2 (some .boolean) 1 := ⟨ab_tb_at 1931 (by decide +kernel) (by decide +kernel), ab_tb_at 94 (by decide +kernel) (by decide +kernel), ab_tb_at 110 (by decide +kernel) (by decide +kernel), ab_tb_at 1932 (by decide +kernel) (by decide +kernel), by decide +kernel, by decide⟩
theorem pm_L_7 : Cond.methodLink RL 7 yX11_parse ∈ ab_tb := ab_tb_at 612 (by decide +kernel) (by decide +kernel)
theorem mf_X11_parse : ab_mfV yX11_parse cX11_parse 3 (some .int) 1 := ⟨ab_tb_at 613 (by decide +kernel) (by decide +kernel), ab_tb_at 614 (by decide +kernel) (by decide +kernel), ab_tb_at 96 (by decide +kernel) (by decide +kernel), ab_tb_at 615 (by decide +kernel) (by decide +kernel), by decide +kernel, by decide⟩
theorem pc_L_13 : Cond.classLink RL 13 "java/lang/IllegalArgumentException" ∈ ab_tb := ab_tb_at 611 (by decide +kernel) (by decide +kernel)
theorem pm_L_15 : Cond.methodLink RL 15 yX11_free ∈ ab_tb := ab_tb_at 873 (by decide +kernel) (by decide +kernel)
theorem mf_X11_free : ab_mfV yX11_free cX11_free 3 (some .int) 2 := ⟨ab_tb_at 874 (by decide +kernel) (by decide +kernel), ab_tb_at 875 (by decide +kernel) (by decide +kernel), ab_tb_at 96 (by decide +kernel) (by decide +kernel), ab_tb_at 876 (by decide +kernel) (by decide +kernel), by decide +kernel, by decide⟩
theorem pc_L_19 : Cond.classLink RL 19 "java/lang/IndexOutOfBoundsException" ∈ ab_tb := ab_tb_at 872 (by decide +kernel) (by decide +kernel)
theorem pm_L_21 : Cond.methodLink RL 21 yX11_instancesOn ∈ ab_tb := ab_tb_at 904 (by decide +kernel) (by decide +kernel)
theorem mf_X11_instancesOn : ab_mfV yX11_instancesOn cX11_instancesOn 2 (some .int) 1 := ⟨ab_tb_at 905 (by decide +kernel) (by decide +kernel), ab_tb_at 906 (by decide +kernel) (by decide +kernel), ab_tb_at 96 (by decide +kernel) (by decide +kernel), ab_tb_at 907 (by decide +kernel) (by decide +kernel), by decide +kernel, by decide⟩
theorem pm_L_24 : Cond.methodLink RL 24 yX11_spotPrice ∈ ab_tb := ab_tb_at 915 (by decide +kernel) (by decide +kernel)
theorem mf_X11_spotPrice : ab_mfV yX11_spotPrice cX11_spotPrice 2 (some .int) 1 := ⟨ab_tb_at 916 (by decide +kernel) (by decide +kernel), ab_tb_at 917 (by decide +kernel) (by decide +kernel), ab_tb_at 96 (by decide +kernel) (by decide +kernel), ab_tb_at 918 (by decide +kernel) (by decide +kernel), by decide +kernel, by decide⟩
theorem pm_L_27 : Cond.methodLink RL 27 yX11_bestHost ∈ ab_tb := ab_tb_at 922 (by decide +kernel) (by decide +kernel)
theorem mf_X11_bestHost : ab_mfV yX11_bestHost cX11_bestHost 2 (some .int) 1 := ⟨ab_tb_at 923 (by decide +kernel) (by decide +kernel), ab_tb_at 924 (by decide +kernel) (by decide +kernel), ab_tb_at 96 (by decide +kernel) (by decide +kernel), ab_tb_at 925 (by decide +kernel) (by decide +kernel), by decide +kernel, by decide⟩
theorem pm_L_30 : Cond.methodLink RL 30 yX11_room ∈ ab_tb := ab_tb_at 938 (by decide +kernel) (by decide +kernel)
theorem mf_X11_room : ab_mfV yX11_room cX11_room 4 (some .int) 1 := ⟨ab_tb_at 939 (by decide +kernel) (by decide +kernel), ab_tb_at 940 (by decide +kernel) (by decide +kernel), ab_tb_at 96 (by decide +kernel) (by decide +kernel), ab_tb_at 941 (by decide +kernel) (by decide +kernel), by decide +kernel, by decide⟩
theorem pm_L_33 : Cond.methodLink RL 33 yX11_typeOf ∈ ab_tb := ab_tb_at 949 (by decide +kernel) (by decide +kernel)
theorem mf_X11_typeOf : ab_mfV yX11_typeOf cX11_typeOf 2 (some .int) 1 := ⟨ab_tb_at 950 (by decide +kernel) (by decide +kernel), ab_tb_at 951 (by decide +kernel) (by decide +kernel), ab_tb_at 96 (by decide +kernel) (by decide +kernel), ab_tb_at 952 (by decide +kernel) (by decide +kernel), by decide +kernel, by decide⟩
theorem pm_L_36 : Cond.methodLink RL 36 yX11_tenantOf ∈ ab_tb := ab_tb_at 962 (by decide +kernel) (by decide +kernel)
theorem mf_X11_tenantOf : ab_mfV yX11_tenantOf cX11_tenantOf 2 (some .int) 1 := ⟨ab_tb_at 963 (by decide +kernel) (by decide +kernel), ab_tb_at 964 (by decide +kernel) (by decide +kernel), ab_tb_at 96 (by decide +kernel) (by decide +kernel), ab_tb_at 965 (by decide +kernel) (by decide +kernel), by decide +kernel, by decide⟩
theorem pm_L_39 : Cond.methodLink RL 39 yX11_hostOf ∈ ab_tb := ab_tb_at 969 (by decide +kernel) (by decide +kernel)
theorem mf_X11_hostOf : ab_mfV yX11_hostOf cX11_hostOf 2 (some .int) 1 := ⟨ab_tb_at 970 (by decide +kernel) (by decide +kernel), ab_tb_at 971 (by decide +kernel) (by decide +kernel), ab_tb_at 96 (by decide +kernel) (by decide +kernel), ab_tb_at 972 (by decide +kernel) (by decide +kernel), by decide +kernel, by decide⟩
theorem pm_L_42 : Cond.methodLink RL 42 yX11_bidOf ∈ ab_tb := ab_tb_at 976 (by decide +kernel) (by decide +kernel)
theorem mf_X11_bidOf : ab_mfV yX11_bidOf cX11_bidOf 2 (some .int) 1 := ⟨ab_tb_at 977 (by decide +kernel) (by decide +kernel), ab_tb_at 978 (by decide +kernel) (by decide +kernel), ab_tb_at 96 (by decide +kernel) (by decide +kernel), ab_tb_at 979 (by decide +kernel) (by decide +kernel), by decide +kernel, by decide⟩
theorem pm_L_45 : Cond.methodLink RL 45 yX11_noticeOf ∈ ab_tb := ab_tb_at 983 (by decide +kernel) (by decide +kernel)
theorem mf_X11_noticeOf : ab_mfV yX11_noticeOf cX11_noticeOf 2 (some .int) 1 := ⟨ab_tb_at 984 (by decide +kernel) (by decide +kernel), ab_tb_at 985 (by decide +kernel) (by decide +kernel), ab_tb_at 96 (by decide +kernel) (by decide +kernel), ab_tb_at 986 (by decide +kernel) (by decide +kernel), by decide +kernel, by decide⟩
theorem pm_L_48 : Cond.methodLink RL 48 yX11_spent ∈ ab_tb := ab_tb_at 990 (by decide +kernel) (by decide +kernel)
theorem mf_X11_spent : ab_mfV yX11_spent cX11_spent 2 (some .long) 1 := ⟨ab_tb_at 991 (by decide +kernel) (by decide +kernel), ab_tb_at 992 (by decide +kernel) (by decide +kernel), ab_tb_at 96 (by decide +kernel) (by decide +kernel), ab_tb_at 993 (by decide +kernel) (by decide +kernel), by decide +kernel, by decide⟩
theorem pm_L_52 : Cond.methodLink RL 52 yX11_hourlyBill ∈ ab_tb := ab_tb_at 1001 (by decide +kernel) (by decide +kernel)
theorem mf_X11_hourlyBill : ab_mfV yX11_hourlyBill cX11_hourlyBill 2 (some .int) 1 := ⟨ab_tb_at 1002 (by decide +kernel) (by decide +kernel), ab_tb_at 1003 (by decide +kernel) (by decide +kernel), ab_tb_at 96 (by decide +kernel) (by decide +kernel), ab_tb_at 1004 (by decide +kernel) (by decide +kernel), by decide +kernel, by decide⟩
theorem pm_L_55 : Cond.methodLink RL 55 yX11_covered ∈ ab_tb := ab_tb_at 1032 (by decide +kernel) (by decide +kernel)
theorem mf_X11_covered : ab_mfV yX11_covered cX11_covered 3 (some .int) 2 := ⟨ab_tb_at 1033 (by decide +kernel) (by decide +kernel), ab_tb_at 1034 (by decide +kernel) (by decide +kernel), ab_tb_at 96 (by decide +kernel) (by decide +kernel), ab_tb_at 1035 (by decide +kernel) (by decide +kernel), by decide +kernel, by decide⟩
theorem pm_L_59 : Cond.methodLink RL 59 yX11_isOverBudget ∈ ab_tb := ab_tb_at 1049 (by decide +kernel) (by decide +kernel)
theorem mf_X11_isOverBudget : ab_mfV yX11_isOverBudget cX11_isOverBudget 2 (some .boolean) 1 := ⟨ab_tb_at 1050 (by decide +kernel) (by decide +kernel), ab_tb_at 1051 (by decide +kernel) (by decide +kernel), ab_tb_at 96 (by decide +kernel) (by decide +kernel), ab_tb_at 1052 (by decide +kernel) (by decide +kernel), by decide +kernel, by decide⟩
theorem pm_L_63 : Cond.methodLink RL 63 yX11_pays ∈ ab_tb := ab_tb_at 1062 (by decide +kernel) (by decide +kernel)
theorem mf_X11_pays : ab_mfV yX11_pays cX11_pays 5 (some .boolean) 1 := ⟨ab_tb_at 1063 (by decide +kernel) (by decide +kernel), ab_tb_at 1064 (by decide +kernel) (by decide +kernel), ab_tb_at 96 (by decide +kernel) (by decide +kernel), ab_tb_at 1065 (by decide +kernel) (by decide +kernel), by decide +kernel, by decide⟩
theorem pm_L_66 : Cond.methodLink RL 66 yX11_cheapestEviction ∈ ab_tb := ab_tb_at 1071 (by decide +kernel) (by decide +kernel)
theorem mf_X11_cheapestEviction : ab_mfV yX11_cheapestEviction cX11_cheapestEviction 3 (some .int) 2 := ⟨ab_tb_at 1072 (by decide +kernel) (by decide +kernel), ab_tb_at 1073 (by decide +kernel) (by decide +kernel), ab_tb_at 96 (by decide +kernel) (by decide +kernel), ab_tb_at 1074 (by decide +kernel) (by decide +kernel), by decide +kernel, by decide⟩
theorem pm_L_69 : Cond.methodLink RL 69 yX11_migrationCost ∈ ab_tb := ab_tb_at 1100 (by decide +kernel) (by decide +kernel)
theorem mf_X11_migrationCost : ab_mfV yX11_migrationCost cX11_migrationCost 2 (some .int) 1 := ⟨ab_tb_at 1101 (by decide +kernel) (by decide +kernel), ab_tb_at 1102 (by decide +kernel) (by decide +kernel), ab_tb_at 96 (by decide +kernel) (by decide +kernel), ab_tb_at 1103 (by decide +kernel) (by decide +kernel), by decide +kernel, by decide⟩
theorem pm_L_72 : Cond.methodLink RL 72 yX11_drainTo ∈ ab_tb := ab_tb_at 1124 (by decide +kernel) (by decide +kernel)
theorem mf_X11_drainTo : ab_mfV yX11_drainTo cX11_drainTo 3 (some .int) 2 := ⟨ab_tb_at 1125 (by decide +kernel) (by decide +kernel), ab_tb_at 1126 (by decide +kernel) (by decide +kernel), ab_tb_at 96 (by decide +kernel) (by decide +kernel), ab_tb_at 1127 (by decide +kernel) (by decide +kernel), by decide +kernel, by decide⟩
theorem pc_L_75 : Cond.classLink RL 75 "java/lang/IllegalStateException" ∈ ab_tb := ab_tb_at 1123 (by decide +kernel) (by decide +kernel)
theorem pm_L_77 : Cond.methodLink RL 77 yX11_priceAfter ∈ ab_tb := ab_tb_at 1166 (by decide +kernel) (by decide +kernel)
theorem mf_X11_priceAfter : ab_mfV yX11_priceAfter cX11_priceAfter 4 (some .int) 2 := ⟨ab_tb_at 1167 (by decide +kernel) (by decide +kernel), ab_tb_at 1168 (by decide +kernel) (by decide +kernel), ab_tb_at 96 (by decide +kernel) (by decide +kernel), ab_tb_at 1169 (by decide +kernel) (by decide +kernel), by decide +kernel, by decide⟩
theorem pm_L_80 : Cond.methodLink RL 80 yX11_evictedAfter ∈ ab_tb := ab_tb_at 1223 (by decide +kernel) (by decide +kernel)
theorem mf_X11_evictedAfter : ab_mfV yX11_evictedAfter cX11_evictedAfter 3 (some .int) 1 := ⟨ab_tb_at 1224 (by decide +kernel) (by decide +kernel), ab_tb_at 1225 (by decide +kernel) (by decide +kernel), ab_tb_at 96 (by decide +kernel) (by decide +kernel), ab_tb_at 1226 (by decide +kernel) (by decide +kernel), by decide +kernel, by decide⟩
theorem pm_L_83 : Cond.methodLink RL 83 yX11_pass ∈ ab_tb := ab_tb_at 1230 (by decide +kernel) (by decide +kernel)
theorem mf_X11_pass : ab_mfV yX11_pass cX11_pass 4 (some .int) 1 := ⟨ab_tb_at 1231 (by decide +kernel) (by decide +kernel), ab_tb_at 1232 (by decide +kernel) (by decide +kernel), ab_tb_at 96 (by decide +kernel) (by decide +kernel), ab_tb_at 1233 (by decide +kernel) (by decide +kernel), by decide +kernel, by decide⟩
theorem pm_L_86 : Cond.methodLink RL 86 yX11_launch ∈ ab_tb := ab_tb_at 1251 (by decide +kernel) (by decide +kernel)
theorem mf_X11_launch : ab_mfV yX11_launch cX11_launch 4 (some .int) 2 := ⟨ab_tb_at 1252 (by decide +kernel) (by decide +kernel), ab_tb_at 1253 (by decide +kernel) (by decide +kernel), ab_tb_at 96 (by decide +kernel) (by decide +kernel), ab_tb_at 1254 (by decide +kernel) (by decide +kernel), by decide +kernel, by decide⟩
theorem pm_L_89 : Cond.methodLink RL 89 yX11_bid ∈ ab_tb := ab_tb_at 1267 (by decide +kernel) (by decide +kernel)
theorem mf_X11_bid : ab_mfV yX11_bid cX11_bid 4 (some .int) 3 := ⟨ab_tb_at 1268 (by decide +kernel) (by decide +kernel), ab_tb_at 1269 (by decide +kernel) (by decide +kernel), ab_tb_at 96 (by decide +kernel) (by decide +kernel), ab_tb_at 1270 (by decide +kernel) (by decide +kernel), by decide +kernel, by decide⟩
theorem pm_L_93 : Cond.methodLink RL 93 yX11_withdraw ∈ ab_tb := ab_tb_at 1282 (by decide +kernel) (by decide +kernel)
theorem mf_X11_withdraw : ab_mfV yX11_withdraw cX11_withdraw 2 (some .int) 1 := ⟨ab_tb_at 1283 (by decide +kernel) (by decide +kernel), ab_tb_at 1284 (by decide +kernel) (by decide +kernel), ab_tb_at 96 (by decide +kernel) (by decide +kernel), ab_tb_at 1285 (by decide +kernel) (by decide +kernel), by decide +kernel, by decide⟩
theorem pm_L_96 : Cond.methodLink RL 96 yX11_stop ∈ ab_tb := ab_tb_at 1293 (by decide +kernel) (by decide +kernel)
theorem mf_X11_stop : ab_mfV yX11_stop cX11_stop 3 (some .int) 1 := ⟨ab_tb_at 1294 (by decide +kernel) (by decide +kernel), ab_tb_at 1295 (by decide +kernel) (by decide +kernel), ab_tb_at 96 (by decide +kernel) (by decide +kernel), ab_tb_at 1296 (by decide +kernel) (by decide +kernel), by decide +kernel, by decide⟩
theorem pm_L_99 : Cond.methodLink RL 99 yX11_evict ∈ ab_tb := ab_tb_at 1301 (by decide +kernel) (by decide +kernel)
theorem mf_X11_evict : ab_mfV yX11_evict cX11_evict 2 (some .int) 1 := ⟨ab_tb_at 1302 (by decide +kernel) (by decide +kernel), ab_tb_at 1303 (by decide +kernel) (by decide +kernel), ab_tb_at 96 (by decide +kernel) (by decide +kernel), ab_tb_at 1304 (by decide +kernel) (by decide +kernel), by decide +kernel, by decide⟩
theorem pm_L_102 : Cond.methodLink RL 102 yX11_migrate ∈ ab_tb := ab_tb_at 1311 (by decide +kernel) (by decide +kernel)
theorem mf_X11_migrate : ab_mfV yX11_migrate cX11_migrate 3 (some .int) 2 := ⟨ab_tb_at 1312 (by decide +kernel) (by decide +kernel), ab_tb_at 1313 (by decide +kernel) (by decide +kernel), ab_tb_at 96 (by decide +kernel) (by decide +kernel), ab_tb_at 1314 (by decide +kernel) (by decide +kernel), by decide +kernel, by decide⟩
theorem pm_L_105 : Cond.methodLink RL 105 yX11_drain ∈ ab_tb := ab_tb_at 1327 (by decide +kernel) (by decide +kernel)
theorem mf_X11_drain : ab_mfV yX11_drain cX11_drain 3 (some .int) 1 := ⟨ab_tb_at 1328 (by decide +kernel) (by decide +kernel), ab_tb_at 1329 (by decide +kernel) (by decide +kernel), ab_tb_at 96 (by decide +kernel) (by decide +kernel), ab_tb_at 1330 (by decide +kernel) (by decide +kernel), by decide +kernel, by decide⟩
theorem pm_L_108 : Cond.methodLink RL 108 yX11_saveSnapshot ∈ ab_tb := ab_tb_at 1341 (by decide +kernel) (by decide +kernel)
theorem mf_X11_saveSnapshot : ab_mfV yX11_saveSnapshot cX11_saveSnapshot 3 (some .boolean) 1 := ⟨ab_tb_at 1342 (by decide +kernel) (by decide +kernel), ab_tb_at 1343 (by decide +kernel) (by decide +kernel), ab_tb_at 96 (by decide +kernel) (by decide +kernel), ab_tb_at 1344 (by decide +kernel) (by decide +kernel), by decide +kernel, by decide⟩
theorem pm_L_111 : Cond.methodLink RL 111 yX11_restoreSnapshot ∈ ab_tb := ab_tb_at 1361 (by decide +kernel) (by decide +kernel)
theorem mf_X11_restoreSnapshot : ab_mfV yX11_restoreSnapshot cX11_restoreSnapshot 2 (some .int) 1 := ⟨ab_tb_at 1362 (by decide +kernel) (by decide +kernel), ab_tb_at 1363 (by decide +kernel) (by decide +kernel), ab_tb_at 96 (by decide +kernel) (by decide +kernel), ab_tb_at 1364 (by decide +kernel) (by decide +kernel), by decide +kernel, by decide⟩
theorem pm_L_148 : Cond.methodLink RL 148 yX12_free ∈ ab_tb := ab_tb_at 1656 (by decide +kernel) (by decide +kernel)
theorem mf_X12_free : ab_mfV yX12_free cX12_free 3 (some .int) 2 := ⟨ab_tb_at 1657 (by decide +kernel) (by decide +kernel), ab_tb_at 1658 (by decide +kernel) (by decide +kernel), ab_tb_at 110 (by decide +kernel) (by decide +kernel), ab_tb_at 1659 (by decide +kernel) (by decide +kernel), by decide +kernel, by decide⟩
theorem pm_L_129 : Cond.methodLink RL 129 yX12_thrown ∈ ab_tb := ab_tb_at 1521 (by decide +kernel) (by decide +kernel)
theorem mf_X12_thrown : ab_mfV yX12_thrown cX12_thrown 1 (some .int) 0 := ⟨ab_tb_at 1522 (by decide +kernel) (by decide +kernel), ab_tb_at 1523 (by decide +kernel) (by decide +kernel), ab_tb_at 110 (by decide +kernel) (by decide +kernel), ab_tb_at 1524 (by decide +kernel) (by decide +kernel), by decide +kernel, by decide⟩
theorem pm_L_145 : Cond.methodLink RL 145 yL_free ∈ ab_tb := ab_tb_at 869 (by decide +kernel) (by decide +kernel)
theorem mf_L_free : ab_mfH yL_free cL_free 5 (some .int) [(0, 10, 13, 19)] 4 := ⟨ab_tb_at 870 (by decide +kernel) (by decide +kernel), ab_tb_at 95 (by decide +kernel) (by decide +kernel), ab_tb_at 871 (by decide +kernel) (by decide +kernel), by decide +kernel, by decide⟩
theorem pm_L_118 : Cond.methodLink RL 118 yX11_append ∈ ab_tb := ab_tb_at 488 (by decide +kernel) (by decide +kernel)
theorem mf_X11_append : ab_mfV yX11_append cX11_append 6 (some .int) 5 := ⟨ab_tb_at 489 (by decide +kernel) (by decide +kernel), ab_tb_at 490 (by decide +kernel) (by decide +kernel), ab_tb_at 96 (by decide +kernel) (by decide +kernel), ab_tb_at 491 (by decide +kernel) (by decide +kernel), by decide +kernel, by decide⟩
theorem pm_L_122 : Cond.methodLink RL 122 yX12_append ∈ ab_tb := ab_tb_at 1525 (by decide +kernel) (by decide +kernel)
theorem mf_X12_append : ab_mfV yX12_append cX12_append 6 (some .int) 5 := ⟨ab_tb_at 1526 (by decide +kernel) (by decide +kernel), ab_tb_at 1527 (by decide +kernel) (by decide +kernel), ab_tb_at 110 (by decide +kernel) (by decide +kernel), ab_tb_at 1528 (by decide +kernel) (by decide +kernel), by decide +kernel, by decide⟩
theorem pm_L_123 : Cond.methodLink RL 123 yL_parse ∈ ab_tb := ab_tb_at 608 (by decide +kernel) (by decide +kernel)
theorem mf_L_parse : ab_mfH yL_parse cL_parse 4 (some .int) [(0, 9, 12, 13)] 3 := ⟨ab_tb_at 609 (by decide +kernel) (by decide +kernel), ab_tb_at 95 (by decide +kernel) (by decide +kernel), ab_tb_at 610 (by decide +kernel) (by decide +kernel), by decide +kernel, by decide⟩
theorem pm_L_128 : Cond.methodLink RL 128 yX12_parse ∈ ab_tb := ab_tb_at 1533 (by decide +kernel) (by decide +kernel)
theorem mf_X12_parse : ab_mfV yX12_parse cX12_parse 3 (some .int) 1 := ⟨ab_tb_at 1534 (by decide +kernel) (by decide +kernel), ab_tb_at 1535 (by decide +kernel) (by decide +kernel), ab_tb_at 110 (by decide +kernel) (by decide +kernel), ab_tb_at 1536 (by decide +kernel) (by decide +kernel), by decide +kernel, by decide⟩
theorem pm_L_133 : Cond.methodLink RL 133 yX11_errorPosition ∈ ab_tb := ab_tb_at 496 (by decide +kernel) (by decide +kernel)
theorem mf_X11_errorPosition : ab_mfV yX11_errorPosition cX11_errorPosition 1 (some .int) 0 := ⟨ab_tb_at 497 (by decide +kernel) (by decide +kernel), ab_tb_at 498 (by decide +kernel) (by decide +kernel), ab_tb_at 96 (by decide +kernel) (by decide +kernel), ab_tb_at 499 (by decide +kernel) (by decide +kernel), by decide +kernel, by decide⟩
theorem pm_L_136 : Cond.methodLink RL 136 yX12_errorPosition ∈ ab_tb := ab_tb_at 1644 (by decide +kernel) (by decide +kernel)
theorem mf_X12_errorPosition : ab_mfV yX12_errorPosition cX12_errorPosition 1 (some .int) 0 := ⟨ab_tb_at 1645 (by decide +kernel) (by decide +kernel), ab_tb_at 1646 (by decide +kernel) (by decide +kernel), ab_tb_at 110 (by decide +kernel) (by decide +kernel), ab_tb_at 1647 (by decide +kernel) (by decide +kernel), by decide +kernel, by decide⟩
theorem pm_L_137 : Cond.methodLink RL 137 yX11_hostCount ∈ ab_tb := ab_tb_at 500 (by decide +kernel) (by decide +kernel)
theorem mf_X11_hostCount : ab_mfV yX11_hostCount cX11_hostCount 1 (some .int) 0 := ⟨ab_tb_at 501 (by decide +kernel) (by decide +kernel), ab_tb_at 502 (by decide +kernel) (by decide +kernel), ab_tb_at 96 (by decide +kernel) (by decide +kernel), ab_tb_at 503 (by decide +kernel) (by decide +kernel), by decide +kernel, by decide⟩
theorem pm_L_140 : Cond.methodLink RL 140 yX12_hostCount ∈ ab_tb := ab_tb_at 1648 (by decide +kernel) (by decide +kernel)
theorem mf_X12_hostCount : ab_mfV yX12_hostCount cX12_hostCount 1 (some .int) 0 := ⟨ab_tb_at 1649 (by decide +kernel) (by decide +kernel), ab_tb_at 1650 (by decide +kernel) (by decide +kernel), ab_tb_at 110 (by decide +kernel) (by decide +kernel), ab_tb_at 1651 (by decide +kernel) (by decide +kernel), by decide +kernel, by decide⟩
theorem pm_L_141 : Cond.methodLink RL 141 yX11_clock ∈ ab_tb := ab_tb_at 504 (by decide +kernel) (by decide +kernel)
theorem mf_X11_clock : ab_mfV yX11_clock cX11_clock 1 (some .int) 0 := ⟨ab_tb_at 505 (by decide +kernel) (by decide +kernel), ab_tb_at 506 (by decide +kernel) (by decide +kernel), ab_tb_at 96 (by decide +kernel) (by decide +kernel), ab_tb_at 507 (by decide +kernel) (by decide +kernel), by decide +kernel, by decide⟩
theorem pm_L_144 : Cond.methodLink RL 144 yX12_clock ∈ ab_tb := ab_tb_at 1652 (by decide +kernel) (by decide +kernel)
theorem mf_X12_clock : ab_mfV yX12_clock cX12_clock 1 (some .int) 0 := ⟨ab_tb_at 1653 (by decide +kernel) (by decide +kernel), ab_tb_at 1654 (by decide +kernel) (by decide +kernel), ab_tb_at 110 (by decide +kernel) (by decide +kernel), ab_tb_at 1655 (by decide +kernel) (by decide +kernel), by decide +kernel, by decide⟩
theorem pm_L_149 : Cond.methodLink RL 149 yL_instancesOn ∈ ab_tb := ab_tb_at 901 (by decide +kernel) (by decide +kernel)
theorem mf_L_instancesOn : ab_mfH yL_instancesOn cL_instancesOn 4 (some .int) [(0, 9, 12, 19)] 3 := ⟨ab_tb_at 902 (by decide +kernel) (by decide +kernel), ab_tb_at 95 (by decide +kernel) (by decide +kernel), ab_tb_at 903 (by decide +kernel) (by decide +kernel), by decide +kernel, by decide⟩
theorem pm_L_151 : Cond.methodLink RL 151 yX12_instancesOn ∈ ab_tb := ab_tb_at 1676 (by decide +kernel) (by decide +kernel)
theorem mf_X12_instancesOn : ab_mfV yX12_instancesOn cX12_instancesOn 2 (some .int) 1 := ⟨ab_tb_at 1677 (by decide +kernel) (by decide +kernel), ab_tb_at 1678 (by decide +kernel) (by decide +kernel), ab_tb_at 110 (by decide +kernel) (by decide +kernel), ab_tb_at 1679 (by decide +kernel) (by decide +kernel), by decide +kernel, by decide⟩
theorem pm_L_152 : Cond.methodLink RL 152 yX11_utilisation ∈ ab_tb := ab_tb_at 508 (by decide +kernel) (by decide +kernel)
theorem mf_X11_utilisation : ab_mfV yX11_utilisation cX11_utilisation 2 (some .double) 0 := ⟨ab_tb_at 509 (by decide +kernel) (by decide +kernel), ab_tb_at 510 (by decide +kernel) (by decide +kernel), ab_tb_at 96 (by decide +kernel) (by decide +kernel), ab_tb_at 511 (by decide +kernel) (by decide +kernel), by decide +kernel, by decide⟩
theorem pm_L_156 : Cond.methodLink RL 156 yX12_utilisation ∈ ab_tb := ab_tb_at 1684 (by decide +kernel) (by decide +kernel)
theorem mf_X12_utilisation : ab_mfV yX12_utilisation cX12_utilisation 1 (some .double) 0 := ⟨ab_tb_at 1685 (by decide +kernel) (by decide +kernel), ab_tb_at 1686 (by decide +kernel) (by decide +kernel), ab_tb_at 110 (by decide +kernel) (by decide +kernel), ab_tb_at 1687 (by decide +kernel) (by decide +kernel), by decide +kernel, by decide⟩
theorem pm_L_157 : Cond.methodLink RL 157 yL_spotPrice ∈ ab_tb := ab_tb_at 912 (by decide +kernel) (by decide +kernel)
theorem mf_L_spotPrice : ab_mfH yL_spotPrice cL_spotPrice 4 (some .int) [(0, 9, 12, 19)] 3 := ⟨ab_tb_at 913 (by decide +kernel) (by decide +kernel), ab_tb_at 95 (by decide +kernel) (by decide +kernel), ab_tb_at 914 (by decide +kernel) (by decide +kernel), by decide +kernel, by decide⟩
theorem pm_L_159 : Cond.methodLink RL 159 yX12_spotPrice ∈ ab_tb := ab_tb_at 1688 (by decide +kernel) (by decide +kernel)
theorem mf_X12_spotPrice : ab_mfV yX12_spotPrice cX12_spotPrice 2 (some .int) 1 := ⟨ab_tb_at 1689 (by decide +kernel) (by decide +kernel), ab_tb_at 1690 (by decide +kernel) (by decide +kernel), ab_tb_at 110 (by decide +kernel) (by decide +kernel), ab_tb_at 1691 (by decide +kernel) (by decide +kernel), by decide +kernel, by decide⟩
theorem pm_L_160 : Cond.methodLink RL 160 yL_bestHost ∈ ab_tb := ab_tb_at 919 (by decide +kernel) (by decide +kernel)
theorem mf_L_bestHost : ab_mfH yL_bestHost cL_bestHost 4 (some .int) [(0, 9, 12, 19)] 3 := ⟨ab_tb_at 920 (by decide +kernel) (by decide +kernel), ab_tb_at 95 (by decide +kernel) (by decide +kernel), ab_tb_at 921 (by decide +kernel) (by decide +kernel), by decide +kernel, by decide⟩
theorem pm_L_162 : Cond.methodLink RL 162 yX12_bestHost ∈ ab_tb := ab_tb_at 1696 (by decide +kernel) (by decide +kernel)
theorem mf_X12_bestHost : ab_mfV yX12_bestHost cX12_bestHost 2 (some .int) 1 := ⟨ab_tb_at 1697 (by decide +kernel) (by decide +kernel), ab_tb_at 1698 (by decide +kernel) (by decide +kernel), ab_tb_at 110 (by decide +kernel) (by decide +kernel), ab_tb_at 1699 (by decide +kernel) (by decide +kernel), by decide +kernel, by decide⟩
theorem pm_L_163 : Cond.methodLink RL 163 yL_room ∈ ab_tb := ab_tb_at 935 (by decide +kernel) (by decide +kernel)
theorem mf_L_room : ab_mfH yL_room cL_room 4 (some .int) [(0, 9, 12, 19)] 3 := ⟨ab_tb_at 936 (by decide +kernel) (by decide +kernel), ab_tb_at 95 (by decide +kernel) (by decide +kernel), ab_tb_at 937 (by decide +kernel) (by decide +kernel), by decide +kernel, by decide⟩
theorem pm_L_165 : Cond.methodLink RL 165 yX12_room ∈ ab_tb := ab_tb_at 1709 (by decide +kernel) (by decide +kernel)
theorem mf_X12_room : ab_mfV yX12_room cX12_room 6 (some .int) 1 := ⟨ab_tb_at 1710 (by decide +kernel) (by decide +kernel), ab_tb_at 1711 (by decide +kernel) (by decide +kernel), ab_tb_at 110 (by decide +kernel) (by decide +kernel), ab_tb_at 1712 (by decide +kernel) (by decide +kernel), by decide +kernel, by decide⟩
theorem pm_L_166 : Cond.methodLink RL 166 yX11_running ∈ ab_tb := ab_tb_at 520 (by decide +kernel) (by decide +kernel)
theorem mf_X11_running : ab_mfV yX11_running cX11_running 1 (some .int) 0 := ⟨ab_tb_at 521 (by decide +kernel) (by decide +kernel), ab_tb_at 522 (by decide +kernel) (by decide +kernel), ab_tb_at 96 (by decide +kernel) (by decide +kernel), ab_tb_at 523 (by decide +kernel) (by decide +kernel), by decide +kernel, by decide⟩
theorem pm_L_169 : Cond.methodLink RL 169 yX12_running ∈ ab_tb := ab_tb_at 1713 (by decide +kernel) (by decide +kernel)
theorem mf_X12_running : ab_mfV yX12_running cX12_running 1 (some .int) 0 := ⟨ab_tb_at 1714 (by decide +kernel) (by decide +kernel), ab_tb_at 1715 (by decide +kernel) (by decide +kernel), ab_tb_at 110 (by decide +kernel) (by decide +kernel), ab_tb_at 1716 (by decide +kernel) (by decide +kernel), by decide +kernel, by decide⟩
theorem pm_L_170 : Cond.methodLink RL 170 yL_typeOf ∈ ab_tb := ab_tb_at 946 (by decide +kernel) (by decide +kernel)
theorem mf_L_typeOf : ab_mfH yL_typeOf cL_typeOf 4 (some .int) [(0, 9, 12, 19)] 3 := ⟨ab_tb_at 947 (by decide +kernel) (by decide +kernel), ab_tb_at 95 (by decide +kernel) (by decide +kernel), ab_tb_at 948 (by decide +kernel) (by decide +kernel), by decide +kernel, by decide⟩
theorem pm_L_172 : Cond.methodLink RL 172 yX12_typeOf ∈ ab_tb := ab_tb_at 1721 (by decide +kernel) (by decide +kernel)
theorem mf_X12_typeOf : ab_mfV yX12_typeOf cX12_typeOf 2 (some .int) 1 := ⟨ab_tb_at 1722 (by decide +kernel) (by decide +kernel), ab_tb_at 1723 (by decide +kernel) (by decide +kernel), ab_tb_at 110 (by decide +kernel) (by decide +kernel), ab_tb_at 1724 (by decide +kernel) (by decide +kernel), by decide +kernel, by decide⟩
theorem pm_L_173 : Cond.methodLink RL 173 yL_tenantOf ∈ ab_tb := ab_tb_at 959 (by decide +kernel) (by decide +kernel)
theorem mf_L_tenantOf : ab_mfH yL_tenantOf cL_tenantOf 4 (some .int) [(0, 9, 12, 19)] 3 := ⟨ab_tb_at 960 (by decide +kernel) (by decide +kernel), ab_tb_at 95 (by decide +kernel) (by decide +kernel), ab_tb_at 961 (by decide +kernel) (by decide +kernel), by decide +kernel, by decide⟩
theorem pm_L_175 : Cond.methodLink RL 175 yX12_tenantOf ∈ ab_tb := ab_tb_at 1729 (by decide +kernel) (by decide +kernel)
theorem mf_X12_tenantOf : ab_mfV yX12_tenantOf cX12_tenantOf 2 (some .int) 1 := ⟨ab_tb_at 1730 (by decide +kernel) (by decide +kernel), ab_tb_at 1731 (by decide +kernel) (by decide +kernel), ab_tb_at 110 (by decide +kernel) (by decide +kernel), ab_tb_at 1732 (by decide +kernel) (by decide +kernel), by decide +kernel, by decide⟩
theorem pm_L_176 : Cond.methodLink RL 176 yL_hostOf ∈ ab_tb := ab_tb_at 966 (by decide +kernel) (by decide +kernel)
theorem mf_L_hostOf : ab_mfH yL_hostOf cL_hostOf 4 (some .int) [(0, 9, 12, 19)] 3 := ⟨ab_tb_at 967 (by decide +kernel) (by decide +kernel), ab_tb_at 95 (by decide +kernel) (by decide +kernel), ab_tb_at 968 (by decide +kernel) (by decide +kernel), by decide +kernel, by decide⟩
theorem pm_L_178 : Cond.methodLink RL 178 yX12_hostOf ∈ ab_tb := ab_tb_at 1733 (by decide +kernel) (by decide +kernel)
theorem mf_X12_hostOf : ab_mfV yX12_hostOf cX12_hostOf 2 (some .int) 1 := ⟨ab_tb_at 1734 (by decide +kernel) (by decide +kernel), ab_tb_at 1735 (by decide +kernel) (by decide +kernel), ab_tb_at 110 (by decide +kernel) (by decide +kernel), ab_tb_at 1736 (by decide +kernel) (by decide +kernel), by decide +kernel, by decide⟩
theorem pm_L_179 : Cond.methodLink RL 179 yL_bidOf ∈ ab_tb := ab_tb_at 973 (by decide +kernel) (by decide +kernel)
theorem mf_L_bidOf : ab_mfH yL_bidOf cL_bidOf 4 (some .int) [(0, 9, 12, 19)] 3 := ⟨ab_tb_at 974 (by decide +kernel) (by decide +kernel), ab_tb_at 95 (by decide +kernel) (by decide +kernel), ab_tb_at 975 (by decide +kernel) (by decide +kernel), by decide +kernel, by decide⟩
theorem pm_L_181 : Cond.methodLink RL 181 yX12_bidOf ∈ ab_tb := ab_tb_at 1737 (by decide +kernel) (by decide +kernel)
theorem mf_X12_bidOf : ab_mfV yX12_bidOf cX12_bidOf 2 (some .int) 1 := ⟨ab_tb_at 1738 (by decide +kernel) (by decide +kernel), ab_tb_at 1739 (by decide +kernel) (by decide +kernel), ab_tb_at 110 (by decide +kernel) (by decide +kernel), ab_tb_at 1740 (by decide +kernel) (by decide +kernel), by decide +kernel, by decide⟩
theorem pm_L_182 : Cond.methodLink RL 182 yL_noticeOf ∈ ab_tb := ab_tb_at 980 (by decide +kernel) (by decide +kernel)
theorem mf_L_noticeOf : ab_mfH yL_noticeOf cL_noticeOf 4 (some .int) [(0, 9, 12, 19)] 3 := ⟨ab_tb_at 981 (by decide +kernel) (by decide +kernel), ab_tb_at 95 (by decide +kernel) (by decide +kernel), ab_tb_at 982 (by decide +kernel) (by decide +kernel), by decide +kernel, by decide⟩
theorem pm_L_184 : Cond.methodLink RL 184 yX12_noticeOf ∈ ab_tb := ab_tb_at 1741 (by decide +kernel) (by decide +kernel)
theorem mf_X12_noticeOf : ab_mfV yX12_noticeOf cX12_noticeOf 2 (some .int) 1 := ⟨ab_tb_at 1742 (by decide +kernel) (by decide +kernel), ab_tb_at 1743 (by decide +kernel) (by decide +kernel), ab_tb_at 110 (by decide +kernel) (by decide +kernel), ab_tb_at 1744 (by decide +kernel) (by decide +kernel), by decide +kernel, by decide⟩
theorem pm_L_185 : Cond.methodLink RL 185 yX11_waiting ∈ ab_tb := ab_tb_at 524 (by decide +kernel) (by decide +kernel)
theorem mf_X11_waiting : ab_mfV yX11_waiting cX11_waiting 1 (some .int) 0 := ⟨ab_tb_at 525 (by decide +kernel) (by decide +kernel), ab_tb_at 526 (by decide +kernel) (by decide +kernel), ab_tb_at 96 (by decide +kernel) (by decide +kernel), ab_tb_at 527 (by decide +kernel) (by decide +kernel), by decide +kernel, by decide⟩
theorem pm_L_188 : Cond.methodLink RL 188 yX12_waiting ∈ ab_tb := ab_tb_at 1745 (by decide +kernel) (by decide +kernel)
theorem mf_X12_waiting : ab_mfV yX12_waiting cX12_waiting 1 (some .int) 0 := ⟨ab_tb_at 1746 (by decide +kernel) (by decide +kernel), ab_tb_at 1747 (by decide +kernel) (by decide +kernel), ab_tb_at 110 (by decide +kernel) (by decide +kernel), ab_tb_at 1748 (by decide +kernel) (by decide +kernel), by decide +kernel, by decide⟩
theorem pm_L_189 : Cond.methodLink RL 189 yX11_waitingBid ∈ ab_tb := ab_tb_at 528 (by decide +kernel) (by decide +kernel)
theorem mf_X11_waitingBid : ab_mfV yX11_waitingBid cX11_waitingBid 2 (some .int) 1 := ⟨ab_tb_at 529 (by decide +kernel) (by decide +kernel), ab_tb_at 530 (by decide +kernel) (by decide +kernel), ab_tb_at 96 (by decide +kernel) (by decide +kernel), ab_tb_at 531 (by decide +kernel) (by decide +kernel), by decide +kernel, by decide⟩
theorem pm_L_192 : Cond.methodLink RL 192 yX12_waitingBid ∈ ab_tb := ab_tb_at 1749 (by decide +kernel) (by decide +kernel)
theorem mf_X12_waitingBid : ab_mfV yX12_waitingBid cX12_waitingBid 3 (some .int) 1 := ⟨ab_tb_at 1750 (by decide +kernel) (by decide +kernel), ab_tb_at 1751 (by decide +kernel) (by decide +kernel), ab_tb_at 110 (by decide +kernel) (by decide +kernel), ab_tb_at 1752 (by decide +kernel) (by decide +kernel), by decide +kernel, by decide⟩
theorem pm_L_193 : Cond.methodLink RL 193 yL_spent ∈ ab_tb := ab_tb_at 987 (by decide +kernel) (by decide +kernel)
theorem mf_L_spent : ab_mfH yL_spent cL_spent 4 (some .int) [(0, 8, 11, 19)] 3 := ⟨ab_tb_at 988 (by decide +kernel) (by decide +kernel), ab_tb_at 95 (by decide +kernel) (by decide +kernel), ab_tb_at 989 (by decide +kernel) (by decide +kernel), by decide +kernel, by decide⟩
theorem pm_L_195 : Cond.methodLink RL 195 yX12_spent ∈ ab_tb := ab_tb_at 1761 (by decide +kernel) (by decide +kernel)
theorem mf_X12_spent : ab_mfV yX12_spent cX12_spent 2 (some .long) 1 := ⟨ab_tb_at 1762 (by decide +kernel) (by decide +kernel), ab_tb_at 1763 (by decide +kernel) (by decide +kernel), ab_tb_at 110 (by decide +kernel) (by decide +kernel), ab_tb_at 1764 (by decide +kernel) (by decide +kernel), by decide +kernel, by decide⟩
theorem pm_L_196 : Cond.methodLink RL 196 yL_hourlyBill ∈ ab_tb := ab_tb_at 998 (by decide +kernel) (by decide +kernel)
theorem mf_L_hourlyBill : ab_mfH yL_hourlyBill cL_hourlyBill 4 (some .int) [(0, 9, 12, 19)] 3 := ⟨ab_tb_at 999 (by decide +kernel) (by decide +kernel), ab_tb_at 95 (by decide +kernel) (by decide +kernel), ab_tb_at 1000 (by decide +kernel) (by decide +kernel), by decide +kernel, by decide⟩
theorem pm_L_198 : Cond.methodLink RL 198 yX12_hourlyBill ∈ ab_tb := ab_tb_at 1769 (by decide +kernel) (by decide +kernel)
theorem mf_X12_hourlyBill : ab_mfV yX12_hourlyBill cX12_hourlyBill 2 (some .int) 1 := ⟨ab_tb_at 1770 (by decide +kernel) (by decide +kernel), ab_tb_at 1771 (by decide +kernel) (by decide +kernel), ab_tb_at 110 (by decide +kernel) (by decide +kernel), ab_tb_at 1772 (by decide +kernel) (by decide +kernel), by decide +kernel, by decide⟩
theorem pm_L_199 : Cond.methodLink RL 199 yL_covered ∈ ab_tb := ab_tb_at 1029 (by decide +kernel) (by decide +kernel)
theorem mf_L_covered : ab_mfH yL_covered cL_covered 5 (some .int) [(0, 10, 13, 19)] 4 := ⟨ab_tb_at 1030 (by decide +kernel) (by decide +kernel), ab_tb_at 95 (by decide +kernel) (by decide +kernel), ab_tb_at 1031 (by decide +kernel) (by decide +kernel), by decide +kernel, by decide⟩
theorem pm_L_202 : Cond.methodLink RL 202 yX12_covered ∈ ab_tb := ab_tb_at 1793 (by decide +kernel) (by decide +kernel)
theorem mf_X12_covered : ab_mfV yX12_covered cX12_covered 3 (some .int) 2 := ⟨ab_tb_at 1794 (by decide +kernel) (by decide +kernel), ab_tb_at 1795 (by decide +kernel) (by decide +kernel), ab_tb_at 110 (by decide +kernel) (by decide +kernel), ab_tb_at 1796 (by decide +kernel) (by decide +kernel), by decide +kernel, by decide⟩
theorem pm_L_203 : Cond.methodLink RL 203 yL_isOverBudget ∈ ab_tb := ab_tb_at 1046 (by decide +kernel) (by decide +kernel)
theorem mf_L_isOverBudget : ab_mfH yL_isOverBudget cL_isOverBudget 4 (some .int) [(0, 16, 19, 19)] 3 := ⟨ab_tb_at 1047 (by decide +kernel) (by decide +kernel), ab_tb_at 95 (by decide +kernel) (by decide +kernel), ab_tb_at 1048 (by decide +kernel) (by decide +kernel), by decide +kernel, by decide⟩
theorem pm_L_205 : Cond.methodLink RL 205 yX12_isOverBudget ∈ ab_tb := ab_tb_at 1797 (by decide +kernel) (by decide +kernel)
theorem mf_X12_isOverBudget : ab_mfV yX12_isOverBudget cX12_isOverBudget 2 (some .boolean) 1 := ⟨ab_tb_at 1798 (by decide +kernel) (by decide +kernel), ab_tb_at 1799 (by decide +kernel) (by decide +kernel), ab_tb_at 110 (by decide +kernel) (by decide +kernel), ab_tb_at 1800 (by decide +kernel) (by decide +kernel), by decide +kernel, by decide⟩
theorem pm_L_206 : Cond.methodLink RL 206 yL_pays ∈ ab_tb := ab_tb_at 1059 (by decide +kernel) (by decide +kernel)
theorem mf_L_pays : ab_mfH yL_pays cL_pays 4 (some .int) [(0, 16, 19, 19)] 3 := ⟨ab_tb_at 1060 (by decide +kernel) (by decide +kernel), ab_tb_at 95 (by decide +kernel) (by decide +kernel), ab_tb_at 1061 (by decide +kernel) (by decide +kernel), by decide +kernel, by decide⟩
theorem pm_L_208 : Cond.methodLink RL 208 yX12_pays ∈ ab_tb := ab_tb_at 1806 (by decide +kernel) (by decide +kernel)
theorem mf_X12_pays : ab_mfV yX12_pays cX12_pays 5 (some .boolean) 1 := ⟨ab_tb_at 1807 (by decide +kernel) (by decide +kernel), ab_tb_at 1808 (by decide +kernel) (by decide +kernel), ab_tb_at 110 (by decide +kernel) (by decide +kernel), ab_tb_at 1809 (by decide +kernel) (by decide +kernel), by decide +kernel, by decide⟩
theorem pm_L_209 : Cond.methodLink RL 209 yX11_fewestHosts ∈ ab_tb := ab_tb_at 537 (by decide +kernel) (by decide +kernel)
theorem mf_X11_fewestHosts : ab_mfV yX11_fewestHosts cX11_fewestHosts 1 (some .int) 0 := ⟨ab_tb_at 538 (by decide +kernel) (by decide +kernel), ab_tb_at 539 (by decide +kernel) (by decide +kernel), ab_tb_at 96 (by decide +kernel) (by decide +kernel), ab_tb_at 540 (by decide +kernel) (by decide +kernel), by decide +kernel, by decide⟩
theorem pm_L_212 : Cond.methodLink RL 212 yX12_fewestHosts ∈ ab_tb := ab_tb_at 1810 (by decide +kernel) (by decide +kernel)
theorem mf_X12_fewestHosts : ab_mfV yX12_fewestHosts cX12_fewestHosts 4 (some .int) 0 := ⟨ab_tb_at 1811 (by decide +kernel) (by decide +kernel), ab_tb_at 1812 (by decide +kernel) (by decide +kernel), ab_tb_at 110 (by decide +kernel) (by decide +kernel), ab_tb_at 1813 (by decide +kernel) (by decide +kernel), by decide +kernel, by decide⟩
theorem pm_L_213 : Cond.methodLink RL 213 yL_cheapestEviction ∈ ab_tb := ab_tb_at 1068 (by decide +kernel) (by decide +kernel)
theorem mf_L_cheapestEviction : ab_mfH yL_cheapestEviction cL_cheapestEviction 5 (some .int) [(0, 10, 13, 19)] 4 := ⟨ab_tb_at 1069 (by decide +kernel) (by decide +kernel), ab_tb_at 95 (by decide +kernel) (by decide +kernel), ab_tb_at 1070 (by decide +kernel) (by decide +kernel), by decide +kernel, by decide⟩
theorem pm_L_215 : Cond.methodLink RL 215 yX12_cheapestEviction ∈ ab_tb := ab_tb_at 1818 (by decide +kernel) (by decide +kernel)
theorem mf_X12_cheapestEviction : ab_mfV yX12_cheapestEviction cX12_cheapestEviction 8 (some .int) 2 := ⟨ab_tb_at 1819 (by decide +kernel) (by decide +kernel), ab_tb_at 1820 (by decide +kernel) (by decide +kernel), ab_tb_at 110 (by decide +kernel) (by decide +kernel), ab_tb_at 1821 (by decide +kernel) (by decide +kernel), by decide +kernel, by decide⟩
theorem pm_L_216 : Cond.methodLink RL 216 yL_migrationCost ∈ ab_tb := ab_tb_at 1097 (by decide +kernel) (by decide +kernel)
theorem mf_L_migrationCost : ab_mfH yL_migrationCost cL_migrationCost 4 (some .int) [(0, 9, 12, 19)] 3 := ⟨ab_tb_at 1098 (by decide +kernel) (by decide +kernel), ab_tb_at 95 (by decide +kernel) (by decide +kernel), ab_tb_at 1099 (by decide +kernel) (by decide +kernel), by decide +kernel, by decide⟩
theorem pm_L_218 : Cond.methodLink RL 218 yX12_migrationCost ∈ ab_tb := ab_tb_at 1829 (by decide +kernel) (by decide +kernel)
theorem mf_X12_migrationCost : ab_mfV yX12_migrationCost cX12_migrationCost 2 (some .int) 1 := ⟨ab_tb_at 1830 (by decide +kernel) (by decide +kernel), ab_tb_at 1831 (by decide +kernel) (by decide +kernel), ab_tb_at 110 (by decide +kernel) (by decide +kernel), ab_tb_at 1832 (by decide +kernel) (by decide +kernel), by decide +kernel, by decide⟩
theorem pm_L_219 : Cond.methodLink RL 219 yL_drainTo ∈ ab_tb := ab_tb_at 1120 (by decide +kernel) (by decide +kernel)
theorem mf_L_drainTo : ab_mfH yL_drainTo cL_drainTo 5 (some .int) [(0, 10, 13, 19), (0, 10, 17, 75)] 4 := ⟨ab_tb_at 1121 (by decide +kernel) (by decide +kernel), ab_tb_at 95 (by decide +kernel) (by decide +kernel), ab_tb_at 1122 (by decide +kernel) (by decide +kernel), by decide +kernel, by decide⟩
theorem pm_L_221 : Cond.methodLink RL 221 yX12_drainTo ∈ ab_tb := ab_tb_at 1840 (by decide +kernel) (by decide +kernel)
theorem mf_X12_drainTo : ab_mfV yX12_drainTo cX12_drainTo 4 (some .int) 2 := ⟨ab_tb_at 1841 (by decide +kernel) (by decide +kernel), ab_tb_at 1842 (by decide +kernel) (by decide +kernel), ab_tb_at 110 (by decide +kernel) (by decide +kernel), ab_tb_at 1843 (by decide +kernel) (by decide +kernel), by decide +kernel, by decide⟩
theorem pm_L_222 : Cond.methodLink RL 222 yL_priceAfter ∈ ab_tb := ab_tb_at 1163 (by decide +kernel) (by decide +kernel)
theorem mf_L_priceAfter : ab_mfH yL_priceAfter cL_priceAfter 5 (some .int) [(0, 10, 13, 19), (0, 10, 17, 13)] 4 := ⟨ab_tb_at 1164 (by decide +kernel) (by decide +kernel), ab_tb_at 95 (by decide +kernel) (by decide +kernel), ab_tb_at 1165 (by decide +kernel) (by decide +kernel), by decide +kernel, by decide⟩
theorem pm_L_224 : Cond.methodLink RL 224 yX12_priceAfter ∈ ab_tb := ab_tb_at 1848 (by decide +kernel) (by decide +kernel)
theorem mf_X12_priceAfter : ab_mfV yX12_priceAfter cX12_priceAfter 4 (some .int) 2 := ⟨ab_tb_at 1849 (by decide +kernel) (by decide +kernel), ab_tb_at 1850 (by decide +kernel) (by decide +kernel), ab_tb_at 110 (by decide +kernel) (by decide +kernel), ab_tb_at 1851 (by decide +kernel) (by decide +kernel), by decide +kernel, by decide⟩
theorem pm_L_225 : Cond.methodLink RL 225 yL_evictedAfter ∈ ab_tb := ab_tb_at 1220 (by decide +kernel) (by decide +kernel)
theorem mf_L_evictedAfter : ab_mfH yL_evictedAfter cL_evictedAfter 4 (some .int) [(0, 9, 12, 19)] 3 := ⟨ab_tb_at 1221 (by decide +kernel) (by decide +kernel), ab_tb_at 95 (by decide +kernel) (by decide +kernel), ab_tb_at 1222 (by decide +kernel) (by decide +kernel), by decide +kernel, by decide⟩
theorem pm_L_227 : Cond.methodLink RL 227 yX12_evictedAfter ∈ ab_tb := ab_tb_at 1874 (by decide +kernel) (by decide +kernel)
theorem mf_X12_evictedAfter : ab_mfV yX12_evictedAfter cX12_evictedAfter 4 (some .int) 1 := ⟨ab_tb_at 1875 (by decide +kernel) (by decide +kernel), ab_tb_at 1876 (by decide +kernel) (by decide +kernel), ab_tb_at 110 (by decide +kernel) (by decide +kernel), ab_tb_at 1877 (by decide +kernel) (by decide +kernel), by decide +kernel, by decide⟩
theorem pm_L_228 : Cond.methodLink RL 228 yL_pass ∈ ab_tb := ab_tb_at 1227 (by decide +kernel) (by decide +kernel)
theorem mf_L_pass : ab_mfH yL_pass cL_pass 4 (some .int) [(0, 9, 12, 13), (0, 9, 15, 75)] 3 := ⟨ab_tb_at 1228 (by decide +kernel) (by decide +kernel), ab_tb_at 95 (by decide +kernel) (by decide +kernel), ab_tb_at 1229 (by decide +kernel) (by decide +kernel), by decide +kernel, by decide⟩
theorem pm_L_230 : Cond.methodLink RL 230 yX12_pass ∈ ab_tb := ab_tb_at 1878 (by decide +kernel) (by decide +kernel)
theorem mf_X12_pass : ab_mfV yX12_pass cX12_pass 4 (some .int) 1 := ⟨ab_tb_at 1879 (by decide +kernel) (by decide +kernel), ab_tb_at 1880 (by decide +kernel) (by decide +kernel), ab_tb_at 110 (by decide +kernel) (by decide +kernel), ab_tb_at 1881 (by decide +kernel) (by decide +kernel), by decide +kernel, by decide⟩
theorem pm_L_231 : Cond.methodLink RL 231 yL_launch ∈ ab_tb := ab_tb_at 1248 (by decide +kernel) (by decide +kernel)
theorem mf_L_launch : ab_mfH yL_launch cL_launch 5 (some .int) [(0, 10, 13, 19), (0, 10, 17, 75)] 4 := ⟨ab_tb_at 1249 (by decide +kernel) (by decide +kernel), ab_tb_at 95 (by decide +kernel) (by decide +kernel), ab_tb_at 1250 (by decide +kernel) (by decide +kernel), by decide +kernel, by decide⟩
theorem pm_L_233 : Cond.methodLink RL 233 yX12_launch ∈ ab_tb := ab_tb_at 1888 (by decide +kernel) (by decide +kernel)
theorem mf_X12_launch : ab_mfV yX12_launch cX12_launch 3 (some .int) 2 := ⟨ab_tb_at 1889 (by decide +kernel) (by decide +kernel), ab_tb_at 1890 (by decide +kernel) (by decide +kernel), ab_tb_at 110 (by decide +kernel) (by decide +kernel), ab_tb_at 1891 (by decide +kernel) (by decide +kernel), by decide +kernel, by decide⟩
theorem pm_L_234 : Cond.methodLink RL 234 yL_bid ∈ ab_tb := ab_tb_at 1264 (by decide +kernel) (by decide +kernel)
theorem mf_L_bid : ab_mfH yL_bid cL_bid 6 (some .int) [(0, 12, 15, 19), (0, 12, 19, 13), (0, 12, 23, 75)] 5 := ⟨ab_tb_at 1265 (by decide +kernel) (by decide +kernel), ab_tb_at 95 (by decide +kernel) (by decide +kernel), ab_tb_at 1266 (by decide +kernel) (by decide +kernel), by decide +kernel, by decide⟩
theorem pm_L_237 : Cond.methodLink RL 237 yX12_bid ∈ ab_tb := ab_tb_at 1892 (by decide +kernel) (by decide +kernel)
theorem mf_X12_bid : ab_mfV yX12_bid cX12_bid 5 (some .int) 3 := ⟨ab_tb_at 1893 (by decide +kernel) (by decide +kernel), ab_tb_at 1894 (by decide +kernel) (by decide +kernel), ab_tb_at 110 (by decide +kernel) (by decide +kernel), ab_tb_at 1895 (by decide +kernel) (by decide +kernel), by decide +kernel, by decide⟩
theorem pm_L_238 : Cond.methodLink RL 238 yL_withdraw ∈ ab_tb := ab_tb_at 1279 (by decide +kernel) (by decide +kernel)
theorem mf_L_withdraw : ab_mfH yL_withdraw cL_withdraw 4 (some .int) [(0, 9, 12, 19)] 3 := ⟨ab_tb_at 1280 (by decide +kernel) (by decide +kernel), ab_tb_at 95 (by decide +kernel) (by decide +kernel), ab_tb_at 1281 (by decide +kernel) (by decide +kernel), by decide +kernel, by decide⟩
theorem pm_L_240 : Cond.methodLink RL 240 yX12_withdraw ∈ ab_tb := ab_tb_at 1897 (by decide +kernel) (by decide +kernel)
theorem mf_X12_withdraw : ab_mfV yX12_withdraw cX12_withdraw 4 (some .int) 1 := ⟨ab_tb_at 1898 (by decide +kernel) (by decide +kernel), ab_tb_at 1899 (by decide +kernel) (by decide +kernel), ab_tb_at 110 (by decide +kernel) (by decide +kernel), ab_tb_at 1900 (by decide +kernel) (by decide +kernel), by decide +kernel, by decide⟩
theorem pm_L_241 : Cond.methodLink RL 241 yL_stop ∈ ab_tb := ab_tb_at 1290 (by decide +kernel) (by decide +kernel)
theorem mf_L_stop : ab_mfH yL_stop cL_stop 4 (some .int) [(0, 9, 12, 19)] 3 := ⟨ab_tb_at 1291 (by decide +kernel) (by decide +kernel), ab_tb_at 95 (by decide +kernel) (by decide +kernel), ab_tb_at 1292 (by decide +kernel) (by decide +kernel), by decide +kernel, by decide⟩
theorem pm_L_243 : Cond.methodLink RL 243 yX12_stop ∈ ab_tb := ab_tb_at 1901 (by decide +kernel) (by decide +kernel)
theorem mf_X12_stop : ab_mfV yX12_stop cX12_stop 2 (some .int) 1 := ⟨ab_tb_at 1902 (by decide +kernel) (by decide +kernel), ab_tb_at 1903 (by decide +kernel) (by decide +kernel), ab_tb_at 110 (by decide +kernel) (by decide +kernel), ab_tb_at 1904 (by decide +kernel) (by decide +kernel), by decide +kernel, by decide⟩
theorem pm_L_244 : Cond.methodLink RL 244 yL_evict ∈ ab_tb := ab_tb_at 1298 (by decide +kernel) (by decide +kernel)
theorem mf_L_evict : ab_mfH yL_evict cL_evict 4 (some .int) [(0, 9, 12, 19), (0, 9, 15, 75)] 3 := ⟨ab_tb_at 1299 (by decide +kernel) (by decide +kernel), ab_tb_at 95 (by decide +kernel) (by decide +kernel), ab_tb_at 1300 (by decide +kernel) (by decide +kernel), by decide +kernel, by decide⟩
theorem pm_L_246 : Cond.methodLink RL 246 yX12_evict ∈ ab_tb := ab_tb_at 1905 (by decide +kernel) (by decide +kernel)
theorem mf_X12_evict : ab_mfV yX12_evict cX12_evict 2 (some .int) 1 := ⟨ab_tb_at 1906 (by decide +kernel) (by decide +kernel), ab_tb_at 1907 (by decide +kernel) (by decide +kernel), ab_tb_at 110 (by decide +kernel) (by decide +kernel), ab_tb_at 1908 (by decide +kernel) (by decide +kernel), by decide +kernel, by decide⟩
theorem pm_L_247 : Cond.methodLink RL 247 yL_migrate ∈ ab_tb := ab_tb_at 1308 (by decide +kernel) (by decide +kernel)
theorem mf_L_migrate : ab_mfH yL_migrate cL_migrate 5 (some .int) [(0, 10, 13, 19), (0, 10, 17, 75)] 4 := ⟨ab_tb_at 1309 (by decide +kernel) (by decide +kernel), ab_tb_at 95 (by decide +kernel) (by decide +kernel), ab_tb_at 1310 (by decide +kernel) (by decide +kernel), by decide +kernel, by decide⟩
theorem pm_L_249 : Cond.methodLink RL 249 yX12_migrate ∈ ab_tb := ab_tb_at 1909 (by decide +kernel) (by decide +kernel)
theorem mf_X12_migrate : ab_mfV yX12_migrate cX12_migrate 3 (some .int) 2 := ⟨ab_tb_at 1910 (by decide +kernel) (by decide +kernel), ab_tb_at 1911 (by decide +kernel) (by decide +kernel), ab_tb_at 110 (by decide +kernel) (by decide +kernel), ab_tb_at 1912 (by decide +kernel) (by decide +kernel), by decide +kernel, by decide⟩
theorem pm_L_250 : Cond.methodLink RL 250 yL_drain ∈ ab_tb := ab_tb_at 1324 (by decide +kernel) (by decide +kernel)
theorem mf_L_drain : ab_mfH yL_drain cL_drain 4 (some .int) [(0, 9, 12, 19), (0, 9, 15, 75)] 3 := ⟨ab_tb_at 1325 (by decide +kernel) (by decide +kernel), ab_tb_at 95 (by decide +kernel) (by decide +kernel), ab_tb_at 1326 (by decide +kernel) (by decide +kernel), by decide +kernel, by decide⟩
theorem pm_L_252 : Cond.methodLink RL 252 yX12_drain ∈ ab_tb := ab_tb_at 1917 (by decide +kernel) (by decide +kernel)
theorem mf_X12_drain : ab_mfV yX12_drain cX12_drain 4 (some .int) 1 := ⟨ab_tb_at 1918 (by decide +kernel) (by decide +kernel), ab_tb_at 1919 (by decide +kernel) (by decide +kernel), ab_tb_at 110 (by decide +kernel) (by decide +kernel), ab_tb_at 1920 (by decide +kernel) (by decide +kernel), by decide +kernel, by decide⟩
theorem pm_L_253 : Cond.methodLink RL 253 yX11_undo ∈ ab_tb := ab_tb_at 588 (by decide +kernel) (by decide +kernel)
theorem mf_X11_undo : ab_mfV yX11_undo cX11_undo 1 (some .int) 0 := ⟨ab_tb_at 589 (by decide +kernel) (by decide +kernel), ab_tb_at 590 (by decide +kernel) (by decide +kernel), ab_tb_at 96 (by decide +kernel) (by decide +kernel), ab_tb_at 591 (by decide +kernel) (by decide +kernel), by decide +kernel, by decide⟩
theorem pm_L_256 : Cond.methodLink RL 256 yX12_undo ∈ ab_tb := ab_tb_at 1921 (by decide +kernel) (by decide +kernel)
theorem mf_X12_undo : ab_mfV yX12_undo cX12_undo 1 (some .int) 0 := ⟨ab_tb_at 1922 (by decide +kernel) (by decide +kernel), ab_tb_at 1923 (by decide +kernel) (by decide +kernel), ab_tb_at 110 (by decide +kernel) (by decide +kernel), ab_tb_at 1924 (by decide +kernel) (by decide +kernel), by decide +kernel, by decide⟩
theorem pm_L_257 : Cond.methodLink RL 257 yL_saveSnapshot ∈ ab_tb := ab_tb_at 1338 (by decide +kernel) (by decide +kernel)
theorem mf_L_saveSnapshot : ab_mfH yL_saveSnapshot cL_saveSnapshot 4 (some .int) [(0, 16, 19, 19)] 3 := ⟨ab_tb_at 1339 (by decide +kernel) (by decide +kernel), ab_tb_at 95 (by decide +kernel) (by decide +kernel), ab_tb_at 1340 (by decide +kernel) (by decide +kernel), by decide +kernel, by decide⟩
theorem pm_L_259 : Cond.methodLink RL 259 yX12_saveSnapshot ∈ ab_tb := ab_tb_at 1925 (by decide +kernel) (by decide +kernel)
theorem mf_X12_saveSnapshot : ab_mfV yX12_saveSnapshot cX12_saveSnapshot 3 (some .boolean) 1 := ⟨ab_tb_at 1926 (by decide +kernel) (by decide +kernel), ab_tb_at 1927 (by decide +kernel) (by decide +kernel), ab_tb_at 110 (by decide +kernel) (by decide +kernel), ab_tb_at 1928 (by decide +kernel) (by decide +kernel), by decide +kernel, by decide⟩
theorem pm_L_260 : Cond.methodLink RL 260 yL_restoreSnapshot ∈ ab_tb := ab_tb_at 1358 (by decide +kernel) (by decide +kernel)
theorem mf_L_restoreSnapshot : ab_mfH yL_restoreSnapshot cL_restoreSnapshot 4 (some .int) [(0, 9, 12, 19), (0, 9, 15, 75)] 3 := ⟨ab_tb_at 1359 (by decide +kernel) (by decide +kernel), ab_tb_at 95 (by decide +kernel) (by decide +kernel), ab_tb_at 1360 (by decide +kernel) (by decide +kernel), by decide +kernel, by decide⟩
theorem pm_L_262 : Cond.methodLink RL 262 yX12_restoreSnapshot ∈ ab_tb := ab_tb_at 1933 (by decide +kernel) (by decide +kernel)
theorem mf_X12_restoreSnapshot : ab_mfV yX12_restoreSnapshot cX12_restoreSnapshot 2 (some .int) 1 := ⟨ab_tb_at 1934 (by decide +kernel) (by decide +kernel), ab_tb_at 1935 (by decide +kernel) (by decide +kernel), ab_tb_at 110 (by decide +kernel) (by decide +kernel), ab_tb_at 1936 (by decide +kernel) (by decide +kernel), by decide +kernel, by decide⟩
theorem nw_L_8 : ab_lkN RL 8 11 [some none, some none, some none, some none, some none, some none, some none, some none, some none] := ⟨RX11, TX11, 9, tyX11, rfl, fi_X11, tyX11_ok, ab_tb_at 123 (by decide +kernel) (by decide +kernel), ab_tb_at 124 (by decide +kernel) (by decide +kernel), ab_tb_at 96 (by decide +kernel) (by decide +kernel), rfl, by decide +kernel⟩
theorem pm_L_114 : Cond.methodLink RL 114 yX11_init ∈ ab_tb := ab_tb_at 125 (by decide +kernel) (by decide +kernel)
theorem mf_X11_init : ab_mfI yX11_init cX11_init 1 0 := ⟨ab_tb_at 126 (by decide +kernel) (by decide +kernel), ab_tb_at 96 (by decide +kernel) (by decide +kernel), ab_tb_at 127 (by decide +kernel) (by decide +kernel), by decide +kernel, by decide, rfl⟩
theorem nw_L_115 : ab_lkN RL 115 12 [none, some none, some none, some none, some none, some none, some none, some none, some none, some none, none, none, none, none, none, none, none, none, none, none, none, some none, some none, some none, some none, some none, some none, none, some none, none, some none, some none, some none] := ⟨RX12, TX12, 33, tyX12, rfl, fi_X12, tyX12_ok, ab_tb_at 1371 (by decide +kernel) (by decide +kernel), ab_tb_at 1372 (by decide +kernel) (by decide +kernel), ab_tb_at 110 (by decide +kernel) (by decide +kernel), rfl, by decide +kernel⟩
theorem pm_L_117 : Cond.methodLink RL 117 yX12_init ∈ ab_tb := ab_tb_at 1373 (by decide +kernel) (by decide +kernel)
theorem mf_X12_init : ab_mfI yX12_init cX12_init 1 0 := ⟨ab_tb_at 1374 (by decide +kernel) (by decide +kernel), ab_tb_at 110 (by decide +kernel) (by decide +kernel), ab_tb_at 1375 (by decide +kernel) (by decide +kernel), by decide +kernel, by decide, rfl⟩
theorem mf_J0_checkIndex_df160 : ab_mfS yJ0_checkIndex_df160 cJ0_checkIndex_df160 2 none 2 := ⟨ab_tb_at 732 (by decide +kernel) (by decide +kernel), ab_tb_at 115 (by decide +kernel) (by decide +kernel), ab_tb_at 733 (by decide +kernel) (by decide +kernel), by decide +kernel, by decide⟩
theorem mf_J3_checkIndex_8e157 : ab_mfS yJ3_checkIndex_8e157 cJ3_checkIndex_8e157 3 (some .int) 3 := ⟨ab_tb_at 737 (by decide +kernel) (by decide +kernel), ab_tb_at 117 (by decide +kernel) (by decide +kernel), ab_tb_at 738 (by decide +kernel) (by decide +kernel), by decide +kernel, by decide⟩
theorem pm_J0_1059 : Cond.methodLink RJ0 1059 yJ3_checkIndex_8e157 ∈ ab_tb := ab_tb_at 736 (by decide +kernel) (by decide +kernel)
theorem pg_J0_1053 : Cond.fieldLink RJ0 1053 "jdk/internal/util/Preconditions" "SIOOBE_FORMATTER" "Ljava/util/function/BiFunction;" ∈ ab_tb := ab_tb_at 734 (by decide +kernel) (by decide +kernel)
