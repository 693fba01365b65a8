/-! ===== the reference's beginning, before the law's own array is made ===== -/
def S1 : List ab_Sh := [(0, 11, [some (some 1), some (some 18), some (some 32), some (some 42), some (some 52), some (some 175), some (some 180), some (some 192), some (some 195)]), (0, 7, [some (some 2), none, some (some 3), some (some 4), none, none, none, none, none, none, none]), (2, 800, []), (2, 800, []), (0, 1, [some (some 5), some (some 7), some (some 9), some (some 11), some (some 13), some (some 15)]), (0, 10, [none, none, some (some 6), none]), (1, 16, []), (0, 10, [none, none, some (some 8), none]), (1, 18, []), (0, 10, [none, none, some (some 10), none]), (1, 6, []), (0, 10, [none, none, some (some 12), none]), (1, 48, []), (0, 10, [none, none, some (some 14), none]), (1, 3, []), (0, 9, [some (some 16), none, some (some 17)]), (1, 800, []), (1, 16, []), (0, 1, [some (some 19), some (some 21), some (some 23), some (some 25), some (some 27), some (some 29)]), (0, 10, [none, none, some (some 20), none]), (1, 16, []), (0, 10, [none, none, some (some 22), none]), (1, 18, []), (0, 10, [none, none, some (some 24), none]), (1, 6, []), (0, 10, [none, none, some (some 26), none]), (1, 48, []), (0, 10, [none, none, some (some 28), none]), (1, 3, []), (0, 9, [some (some 30), none, some (some 31)]), (1, 800, []), (1, 16, []), (0, 8, [none, none, some (some 33), some (some 35), some (some 37), some (some 39), some (some 41)]), (0, 10, [none, none, some (some 34), none]), (1, 72, []), (0, 10, [none, none, some (some 36), none]), (1, 30, []), (0, 10, [none, none, some (some 38), none]), (1, 6, []), (0, 10, [none, none, some (some 40), none]), (1, 16, []), (4, 6, []), (0, 8, [none, none, some (some 43), some (some 45), some (some 47), some (some 49), some (some 51)]), (0, 10, [none, none, some (some 44), none]), (1, 72, []), (0, 10, [none, none, some (some 46), none]), (1, 30, []), (0, 10, [none, none, some (some 48), none]), (1, 6, []), (0, 10, [none, none, some (some 50), none]), (1, 16, []), (4, 6, []), (0, 4, [some (some 53), some (some 54), none, none, none]), (5, 10, [some (some 55), some (some 65), some (some 75), some (some 85), some (some 95), some (some 105), some (some 115), some (some 125), some (some 135), some (some 145)]), (5, 2, [some (some 155), some (some 165)]), (0, 8, [none, none, some (some 56), some (some 58), some (some 60), some (some 62), some (some 64)]), (0, 10, [none, none, some (some 57), none]), (1, 72, []), (0, 10, [none, none, some (some 59), none]), (1, 30, []), (0, 10, [none, none, some (some 61), none]), (1, 6, []), (0, 10, [none, none, some (some 63), none]), (1, 16, []), (4, 6, []), (0, 8, [none, none, some (some 66), some (some 68), some (some 70), some (some 72), some (some 74)]), (0, 10, [none, none, some (some 67), none]), (1, 72, []), (0, 10, [none, none, some (some 69), none]), (1, 30, []), (0, 10, [none, none, some (some 71), none]), (1, 6, []), (0, 10, [none, none, some (some 73), none]), (1, 16, []), (4, 6, []), (0, 8, [none, none, some (some 76), some (some 78), some (some 80), some (some 82), some (some 84)]), (0, 10, [none, none, some (some 77), none]), (1, 72, []), (0, 10, [none, none, some (some 79), none]), (1, 30, []), (0, 10, [none, none, some (some 81), none]), (1, 6, []), (0, 10, [none, none, some (some 83), none]), (1, 16, []), (4, 6, []), (0, 8, [none, none, some (some 86), some (some 88), some (some 90), some (some 92), some (some 94)]), (0, 10, [none, none, some (some 87), none]), (1, 72, []), (0, 10, [none, none, some (some 89), none]), (1, 30, []), (0, 10, [none, none, some (some 91), none]), (1, 6, []), (0, 10, [none, none, some (some 93), none]), (1, 16, []), (4, 6, []), (0, 8, [none, none, some (some 96), some (some 98), some (some 100), some (some 102), some (some 104)]), (0, 10, [none, none, some (some 97), none]), (1, 72, []), (0, 10, [none, none, some (some 99), none]), (1, 30, []), (0, 10, [none, none, some (some 101), none]), (1, 6, []), (0, 10, [none, none, some (some 103), none]), (1, 16, []), (4, 6, []), (0, 8, [none, none, some (some 106), some (some 108), some (some 110), some (some 112), some (some 114)]), (0, 10, [none, none, some (some 107), none]), (1, 72, []), (0, 10, [none, none, some (some 109), none]), (1, 30, []), (0, 10, [none, none, some (some 111), none]), (1, 6, []), (0, 10, [none, none, some (some 113), none]), (1, 16, []), (4, 6, []), (0, 8, [none, none, some (some 116), some (some 118), some (some 120), some (some 122), some (some 124)]), (0, 10, [none, none, some (some 117), none]), (1, 72, []), (0, 10, [none, none, some (some 119), none]), (1, 30, []), (0, 10, [none, none, some (some 121), none]), (1, 6, []), (0, 10, [none, none, some (some 123), none]), (1, 16, []), (4, 6, []), (0, 8, [none, none, some (some 126), some (some 128), some (some 130), some (some 132), some (some 134)]), (0, 10, [none, none, some (some 127), none]), (1, 72, []), (0, 10, [none, none, some (some 129), none]), (1, 30, []), (0, 10, [none, none, some (some 131), none]), (1, 6, []), (0, 10, [none, none, some (some 133), none]), (1, 16, []), (4, 6, []), (0, 8, [none, none, some (some 136), some (some 138), some (some 140), some (some 142), some (some 144)]), (0, 10, [none, none, some (some 137), none]), (1, 72, []), (0, 10, [none, none, some (some 139), none]), (1, 30, []), (0, 10, [none, none, some (some 141), none]), (1, 6, []), (0, 10, [none, none, some (some 143), none]), (1, 16, []), (4, 6, []), (0, 8, [none, none, some (some 146), some (some 148), some (some 150), some (some 152), some (some 154)]), (0, 10, [none, none, some (some 147), none]), (1, 72, []), (0, 10, [none, none, some (some 149), none]), (1, 30, []), (0, 10, [none, none, some (some 151), none]), (1, 6, []), (0, 10, [none, none, some (some 153), none]), (1, 16, []), (4, 6, []), (0, 8, [none, none, some (some 156), some (some 158), some (some 160), some (some 162), some (some 164)]), (0, 10, [none, none, some (some 157), none]), (1, 72, []), (0, 10, [none, none, some (some 159), none]), (1, 30, []), (0, 10, [none, none, some (some 161), none]), (1, 6, []), (0, 10, [none, none, some (some 163), none]), (1, 16, []), (4, 6, []), (0, 8, [none, none, some (some 166), some (some 168), some (some 170), some (some 172), some (some 174)]), (0, 10, [none, none, some (some 167), none]), (1, 72, []), (0, 10, [none, none, some (some 169), none]), (1, 30, []), (0, 10, [none, none, some (some 171), none]), (1, 6, []), (0, 10, [none, none, some (some 173), none]), (1, 16, []), (4, 6, []), (0, 0, [some (some 176), some (some 178)]), (0, 10, [none, none, some (some 177), none]), (1, 6, []), (0, 10, [none, none, some (some 179), none]), (1, 36, []), (0, 6, [some (some 181), some (some 182), some (some 183), some (some 185), some (some 186), some (some 189)]), (1, 729, []), (1, 729, []), (0, 10, [none, none, some (some 184), none]), (1, 1458, []), (1, 6, []), (0, 5, [some (some 187), some (some 188), none]), (1, 6, []), (1, 6, []), (0, 5, [some (some 190), some (some 191), none]), (1, 6, []), (1, 6, []), (0, 3, [some (some 193), none, none]), (0, 10, [none, none, some (some 194), none]), (1, 48, []), (0, 2, [some (some 196), some (some 197), none, some (some 198)]), (1, 5, []), (1, 5, []), (0, 10, [none, none, some (some 199), none]), (1, 16, []), (0, 12, [none, some (some 201), some (some 202), some (some 203), some (some 204), some (some 205), some (some 206), some (some 207), some (some 208), some (some 209), none, none, none, none, none, none, none, none, none, none, none, some (some 210), some (some 211), some (some 212), some (some 213), some (some 214), some (some 215), none, some (some 216), none, some (some 217), some (some 218), some (some 219)]), (4, 116, []), (1, 14, []), (1, 32, []), (1, 36, []), (1, 12, []), (1, 96, []), (1, 2, []), (1, 1640, []), (2, 800, []), (1, 40, []), (1, 4096, []), (1, 4096, []), (1, 4096, []), (1, 4096, []), (1, 12, []), (4, 116, []), (4, 1160, []), (4, 232, []), (3, 2, [])]
section
abbrev ok_X12_s (s : Nat) : Prop := S1[s]? = some (0, 12, [none, some (some (s + 1)), some (some (s + 2)), some (some (s + 3)), some (some (s + 4)), some (some (s + 5)), some (some (s + 6)), some (some (s + 7)), some (some (s + 8)), some (some (s + 9)), none, none, none, none, none, none, none, none, none, none, none, some (some (s + 10)), some (some (s + 11)), some (some (s + 12)), some (some (s + 13)), some (some (s + 14)), some (some (s + 15)), none, some (some (s + 16)), none, some (some (s + 17)), some (some (s + 18)), some (some (s + 19))])
theorem rc_X12_s {s : Nat} {I : Nat → Nat → Int32} {J : Nat → Nat → Int64} {x : Nat} (h : ok_X12_s s) : ab_rc (S1, I, J, x) 12 s = some () := op_rc h
theorem fI_X12_0_s {s : Nat} {I : Nat → Nat → Int32} {J : Nat → Nat → Int64} {x : Nat} (h : ok_X12_s s) : ab_fI (S1, I, J, x) 12 s 0 = some (I s 0) := op_fI h rfl
theorem fR_X12_1_s {s : Nat} {I : Nat → Nat → Int32} {J : Nat → Nat → Int64} {x : Nat} (h : ok_X12_s s) : ab_fR (S1, I, J, x) 12 s 1 = some (s + 1) := op_fR h rfl
theorem fR_X12_2_s {s : Nat} {I : Nat → Nat → Int32} {J : Nat → Nat → Int64} {x : Nat} (h : ok_X12_s s) : ab_fR (S1, I, J, x) 12 s 2 = some (s + 2) := op_fR h rfl
theorem fR_X12_3_s {s : Nat} {I : Nat → Nat → Int32} {J : Nat → Nat → Int64} {x : Nat} (h : ok_X12_s s) : ab_fR (S1, I, J, x) 12 s 3 = some (s + 3) := op_fR h rfl
theorem fR_X12_4_s {s : Nat} {I : Nat → Nat → Int32} {J : Nat → Nat → Int64} {x : Nat} (h : ok_X12_s s) : ab_fR (S1, I, J, x) 12 s 4 = some (s + 4) := op_fR h rfl
theorem fR_X12_5_s {s : Nat} {I : Nat → Nat → Int32} {J : Nat → Nat → Int64} {x : Nat} (h : ok_X12_s s) : ab_fR (S1, I, J, x) 12 s 5 = some (s + 5) := op_fR h rfl
theorem fR_X12_6_s {s : Nat} {I : Nat → Nat → Int32} {J : Nat → Nat → Int64} {x : Nat} (h : ok_X12_s s) : ab_fR (S1, I, J, x) 12 s 6 = some (s + 6) := op_fR h rfl
theorem fR_X12_7_s {s : Nat} {I : Nat → Nat → Int32} {J : Nat → Nat → Int64} {x : Nat} (h : ok_X12_s s) : ab_fR (S1, I, J, x) 12 s 7 = some (s + 7) := op_fR h rfl
theorem fR_X12_8_s {s : Nat} {I : Nat → Nat → Int32} {J : Nat → Nat → Int64} {x : Nat} (h : ok_X12_s s) : ab_fR (S1, I, J, x) 12 s 8 = some (s + 8) := op_fR h rfl
theorem fR_X12_9_s {s : Nat} {I : Nat → Nat → Int32} {J : Nat → Nat → Int64} {x : Nat} (h : ok_X12_s s) : ab_fR (S1, I, J, x) 12 s 9 = some (s + 9) := op_fR h rfl
theorem pI_X12_29_s {s : Nat} {I : Nat → Nat → Int32} {J : Nat → Nat → Int64} {x : Nat} (h : ok_X12_s s) (v : Int32) : ab_pI (S1, I, J, x) 12 s 29 v = some (S1, ab_u I s 29 v, J, x) := op_pI v h rfl
theorem fR_X12_32_s {s : Nat} {I : Nat → Nat → Int32} {J : Nat → Nat → Int64} {x : Nat} (h : ok_X12_s s) : ab_fR (S1, I, J, x) 12 s 32 = some (s + 19) := op_fR h rfl
end
section
theorem okM_s : ok_X12_s 200 := rfl
end
section
variable {I : Nat → Nat → Int32} {J : Nat → Nat → Int64} {x : Nat}
theorem m_rc_s : ab_rc (S1, I, J, x) 12 200 = some () := rc_X12_s okM_s
theorem m_R1_s : ab_fR (S1, I, J, x) 12 200 1 = some 201 := fR_X12_1_s okM_s
theorem m_R2_s : ab_fR (S1, I, J, x) 12 200 2 = some 202 := fR_X12_2_s okM_s
theorem m_R3_s : ab_fR (S1, I, J, x) 12 200 3 = some 203 := fR_X12_3_s okM_s
theorem m_R4_s : ab_fR (S1, I, J, x) 12 200 4 = some 204 := fR_X12_4_s okM_s
theorem m_R5_s : ab_fR (S1, I, J, x) 12 200 5 = some 205 := fR_X12_5_s okM_s
theorem m_R6_s : ab_fR (S1, I, J, x) 12 200 6 = some 206 := fR_X12_6_s okM_s
theorem m_R7_s : ab_fR (S1, I, J, x) 12 200 7 = some 207 := fR_X12_7_s okM_s
theorem m_R8_s : ab_fR (S1, I, J, x) 12 200 8 = some 208 := fR_X12_8_s okM_s
theorem m_R9_s : ab_fR (S1, I, J, x) 12 200 9 = some 209 := fR_X12_9_s okM_s
theorem m_F0_s : ab_fI (S1, I, J, x) 12 200 0 = some (I 200 0) := fI_X12_0_s okM_s
theorem sh_199_s : S1[201]? = some (4, 116, []) := rfl
theorem sh_200_s : S1[202]? = some (1, 14, []) := rfl
theorem sh_201_s : S1[203]? = some (1, 32, []) := rfl
theorem sh_202_s : S1[204]? = some (1, 36, []) := rfl
theorem m_now_s {j : Nat} (h : j < 116) : ab_ldJ (S1, I, J, x) 201 (nI j) = some (J 201 j) := op_ldJ sh_199_s rfl h (by omega)
theorem m_snow_s {j : Nat} (v : Int64) (h : j < 116) : ab_stJ (S1, I, J, x) 201 (nI j) v = some (S1, I, ab_u J 201 j v, x) := op_stJ v sh_199_s rfl h (by omega)
theorem m_told_s {j : Nat} (h : j < 14) : ab_ld (S1, I, J, x) 1 202 (nI j) = some (I 202 j) := op_ld sh_200_s rfl h (by omega)
theorem m_hosts_s {j : Nat} (h : j < 32) : ab_ld (S1, I, J, x) 1 203 (nI j) = some (I 203 j) := op_ld sh_201_s rfl h (by omega)
theorem m_types_s {j : Nat} (h : j < 36) : ab_ld (S1, I, J, x) 1 204 (nI j) = some (I 204 j) := op_ld sh_202_s rfl h (by omega)
theorem m_to0_s : ab_ld (S1, I, J, x) 1 202 0 = some (I 202 0) := m_told_s (j := 0) (by omega)
theorem m_to1_s : ab_ld (S1, I, J, x) 1 202 1 = some (I 202 1) := m_told_s (j := 1) (by omega)
theorem m_to4_s : ab_ld (S1, I, J, x) 1 202 4 = some (I 202 4) := m_told_s (j := 4) (by omega)
theorem m_to6_s : ab_ld (S1, I, J, x) 1 202 6 = some (I 202 6) := m_told_s (j := 6) (by omega)
theorem m_vi_s {i w : Nat} (h : i < 12) (hw : w < 6) : ab_ldJ (S1, I, J, x) 201 (nI (14 + 6 * i + w)) = some (vi (J 201) i w) := m_now_s (by omega)
theorem m_its1_s {i : Nat} (h : i < 12) : dd_X12_its 200 (nI i) 1 (S1, I, J, x) = some ((vi (J 201) i 1).toInt32, (S1, I, J, x)) := by
  unfold dd_X12_its
  simp (disch := omega) only [ob_s, m_rc_s, m_R1_s, m_R2_s, m_R3_s, m_R4_s, m_R5_s, m_R6_s, m_R7_s, m_R8_s, m_R9_s, m_F0_s, m_of0, m_of1, m_of2, m_of3, m_of4, m_of5, x2, x2a, x3, x3a, x3b, x6, x6a, x6b, x6c, x6d, x6e, m_now_s]; rfl
theorem m_runs_s {i : Nat} (h : i < 12) : dd_X12_runs 200 (nI i) (S1, I, J, x) = some (if rn (J 201) i then 1 else 0, (S1, I, J, x)) := by
  unfold dd_X12_runs rn
  simp (disch := omega) only [ob_s, m_rc_s, m_R1_s, m_R2_s, m_R3_s, m_R4_s, m_R5_s, m_R6_s, m_R7_s, m_R8_s, m_R9_s, m_F0_s, m_of0, m_of1, m_of2, m_of3, m_of4, m_of5, x2, x2a, x3, x3a, x3b, x6, x6a, x6b, x6c, x6d, x6e, m_vi_s, lc_eq]
  by_cases h1 : vi (J 201) i 0 = -1
  · rw [if_pos h1]; simp [h1, bb_X12_runs_22]
  · rw [if_neg h1]; simp [h1, bb_X12_runs_22]
theorem m_all_s {NH NY NE NR : Nat} (hc : mc I NH NY NE NR) : dd_X12_allCpu 200 (S1, I, J, x) = some (mall I NH, (S1, I, J, x)) := by
  have hn := hc.2.1
  unfold dd_X12_allCpu mall
  refine lp_sum (fun n k b => bb_X12_allCpu_4 n 200 b k (S1, I, J, x)) NH (by omega) _ (fun b => some (b, (S1, I, J, x))) (fun n j b hj => ?_) (fun n b => ?_)
  · have e0 : ab_ld (S1, I, J, x) 1 203 (2 * nI j) = some (mh I j 0) := by rw [x2, m_hosts_s (by omega)]; rfl
    rw [bb_X12_allCpu_4]
    simp only [ob_s, m_rc_s, m_R1_s, m_R2_s, m_R3_s, m_R4_s, m_R5_s, m_R6_s, m_R7_s, m_R8_s, m_R9_s, m_F0_s, m_to0_s, hc.1.1, e0]
    rw [if_neg (by rw [li_le (by omega) (by omega)]; omega)]
  · rw [bb_X12_allCpu_4]
    simp only [ob_s, m_rc_s, m_R1_s, m_R2_s, m_R3_s, m_R4_s, m_R5_s, m_R6_s, m_R7_s, m_R8_s, m_R9_s, m_F0_s, m_to0_s, hc.1.1]
    rw [if_pos (by rw [li_le (by omega) (by omega)]; omega)]
theorem m_load_s {NH NY NE : Nat} (hw : wfs NH NY NE (J 201)) (hy : NY ≤ 6) : dd_X12_loadCpu 200 (S1, I, J, x) = some (mload I (J 201), (S1, I, J, x)) := by
  unfold dd_X12_loadCpu mload
  refine lp_sum (fun n k b => bb_X12_loadCpu_4 n 200 b k (S1, I, J, x)) 12 (by omega) _ (fun b => some (b, (S1, I, J, x))) (fun n j b hj => ?_) (fun n b => ?_)
  · rw [bb_X12_loadCpu_4, if_neg (li_12 hj)]
    simp only [ob_s, m_rc_s, m_R1_s, m_R2_s, m_R3_s, m_R4_s, m_R5_s, m_R6_s, m_R7_s, m_R8_s, m_R9_s, m_F0_s, m_runs_s hj, bo_if]
    cases hr : rn (J 201) j with
    | false => simp [bb_X12_loadCpu_36]
    | true =>
      have h3 := m_ty (w := 0) hw hy hj hr
      have e0 : ab_ld (S1, I, J, x) 1 204 (3 * nI (ty (J 201) j)) = some (mt I (ty (J 201) j) 0) := by rw [x3, m_types_s (by omega)]; rfl
      simp only [ob_s, m_rc_s, m_R1_s, m_R2_s, m_R3_s, m_R4_s, m_R5_s, m_R6_s, m_R7_s, m_R8_s, m_R9_s, m_F0_s, m_its1_s hj, h3.1, e0, bb_X12_loadCpu_36]
      simp
  · rw [bb_X12_loadCpu_4, if_pos li_12e]
end
section
variable {I : Nat → Nat → Int32} {J : Nat → Nat → Int64} {x : Nat} {NH NY NE NR : Nat}
theorem m_t2_s {y : Nat} (h : y < 6) : ab_ld (S1, I, J, x) 1 204 (3 * nI y + 2) = some (mt I y 2) := by rw [x3, x3b, m_types_s (by omega)]; rfl
end
section
variable {I : Nat → Nat → Int32} {J : Nat → Nat → Int64} {x : Nat} {NH NY NE NR s : Nat} {f f' : Nat → Int64}
theorem m_prE_s (hc : mc I NH NY NE NR) (u : Int32) (n : Nat) : bb_X12_setsPrices_25 (n + 1) 200 u (nI NY) (S1, I, J, x) = some ((), (S1, I, J, x)) := by
  have e0 := hc.1.2.1
  rw [bb_X12_setsPrices_25, m_R2_s, ob_s, m_to1_s, ob_s, e0, if_pos (le_self _)]
theorem m_prS_s (hc : mc I NH NY NE NR) (u : Int32) (n t : Nat) (ht : t < NY) (g : Nat → Int64) : bb_X12_setsPrices_25 (n + 1) 200 u (nI t) (S1, I, jr J g, x) = bb_X12_setsPrices_25 n 200 u (nI t + 1) (S1, I, jr J (fu g (2 + t) (prcF I u t).toInt64), x) := by
  have h6 := hc.2.2.1
  have e2 : (2 : Int32) + nI t = nI (2 + t) := li_add 2 _
  have e0 := hc.1.2.1
  have hn : ¬ nI NY ≤ nI t := by rw [li_le (by omega) (by omega)]; omega
  rw [bb_X12_setsPrices_25, m_R2_s, ob_s, m_to1_s, ob_s, e0, if_neg hn, m_R4_s, ob_s, m_t2_s (show t < 6 by omega), ob_s, ob_s, m_to4_s, ob_s, ob_s, m_to6_s, ob_s, if_neg n100, if_neg n100, m_R1_s, ob_s]
  unfold prcF bb_X12_setsPrices_97
  by_cases hh : mt I t 2 ≤ (mt I t 2 * (I 202 4 + ((I 202 6 * u) / 100))) / 100
  · rw [if_pos hh, if_pos hh, e2, m_snow_s _ (show 2 + t < 116 by omega), ob_s, jr_u]
  · rw [if_neg hh, if_neg hh, e2, m_snow_s _ (show 2 + t < 116 by omega), ob_s, jr_u]
theorem m_pricesL_s (hc : mc I NH NY NE NR) (u : Int32) : bb_X12_setsPrices_22 200 u (S1, I, jr J f, x) = some ((), (S1, I, jr J (itr (fun t g => fu g (2 + t) (prcF I u t).toInt64) 0 NY f), x)) := by
  have h6 := hc.2.2.1
  have hN : NY < 900000 := by omega
  have key := lp_up0 (fun n k g => bb_X12_setsPrices_25 n 200 u k (S1, I, jr J g, x)) NY hN (fun t g => fu g (2 + t) (prcF I u t).toInt64) (fun g => some ((), (S1, I, jr J g, x))) (fun n t g ht => m_prS_s hc u n t ht g) (fun n g => m_prE_s hc u n) f
  exact key
theorem m_prices_s (hc : mc I NH NY NE NR) (hw : wfs NH NY NE f) : dd_X12_setsPrices 200 (S1, I, jr J f, x) = some ((), (S1, I, jr J (prF I NH NY f), x)) := by
  have h6 := hc.2.2.1
  unfold dd_X12_setsPrices prF useF
  simp only [ob_s, m_rc_s, m_R1_s, m_R2_s, m_R3_s, m_R4_s, m_R5_s, m_R6_s, m_R7_s, m_R8_s, m_R9_s, m_F0_s, m_all_s hc]
  by_cases h0 : mall I NH = 0
  · rw [if_pos h0, if_pos h0, m_pricesL_s hc]
  · rw [if_neg h0, if_neg h0]
    have hl : dd_X12_loadCpu 200 (S1, I, jr J f, x) = some (mload I f, (S1, I, jr J f, x)) := @m_load_s I (jr J f) x NH NY NE hw h6
    simp only [ob_s, m_rc_s, m_R1_s, m_R2_s, m_R3_s, m_R4_s, m_R5_s, m_R6_s, m_R7_s, m_R8_s, m_R9_s, m_F0_s, hl, if_neg h0, m_pricesL_s hc]
end
section
variable {I : Nat → Nat → Int32} {J : Nat → Nat → Int64} {x : Nat} {NH NY NE NR s : Nat} {f g : Nat → Int64}
theorem m_snowJ_s {j : Nat} (v : Int64) (h : j < 116) : ab_stJ (S1, I, jr J g, x) 201 (nI j) v = some (S1, I, jr J (fu g j v), x) := by rw [m_snow_s v h, jr_u]
end
section
variable {I I' : Nat → Nat → Int32} {J J' : Nat → Nat → Int64} {x : Nat} {NH NY NE NR s d u tp : Nat} {f g : Nat → Int64} {H S : Nat → Nat → Int64} {b : Nat → Bool}
theorem sh_217_s : S1[219]? = some (3, 2, []) := rfl
theorem m_R32_s : ab_fR (S1, I, J, x) 12 200 32 = some 219 := fR_X12_32_s okM_s
theorem m_P29_s (v : Int32) : ab_pI (S1, I, J, x) 12 200 29 v = some (S1, ab_u I 200 29 v, J, x) := pI_X12_29_s okM_s v
end
section
variable {I I' I0 : Nat → Nat → Int32} {J J' : Nat → Nat → Int64} {x : Nat} {NH NY NE NR s d u tp : Nat} {f g : Nat → Int64} {H S : Nat → Nat → Int64} {b : Nat → Bool}
theorem sh_205_s : S1[207]? = some (1, 2, []) := rfl
theorem sh_206_s : S1[208]? = some (1, 1640, []) := rfl
end
section
variable {I I' I0 I1 I2 I3 I4 M M' M0 M1 M2 : Nat → Nat → Int32} {J J' J1 J2 J3 J4 : Nat → Nat → Int64} {x x' : Nat} {T : Nat → Int32} {N p : Nat}
theorem m_emit_s {n : Nat} (e : Int32) (hn : M 207 1 = nI n) (h8 : n < 820) : dd_X12_emit 200 e (S1, M, J, x) = some (1, (S1, ab_u (ab_u M 208 (820 + n) e) 207 1 (nI (n + 1)), J, x)) := by
  have e1 : ab_u M 208 (820 + n) e 207 1 = nI n := by rw [u_r (by omega)]; exact hn
  unfold dd_X12_emit
  rw [m_R8_s, ob_s, m_R7_s, ob_s, op_ld sh_205_s (li_n 1) (by omega) (by omega), ob_s, hn]
  show ((ab_st (S1, M, J, x) 1 208 (nI 820 + nI n) e).bind _) = _
  rw [li_add, op_st _ sh_206_s rfl (show 820 + n < 1640 by omega) (by omega), ob_s, m_R7_s, ob_s, op_ld sh_205_s (li_n 1) (by omega) (by omega), ob_s, e1, nI_1, op_st _ sh_205_s (li_n 1) (by omega) (by omega), ob_s]
end
section
variable {I I' I0 I1 I2 I3 I4 M M' M0 M1 M2 : Nat → Nat → Int32} {J J' J1 J2 J3 J4 : Nat → Nat → Int64} {x x' : Nat} {NH NY NE NR : Nat} {f g : Nat → Int64}
theorem m_lifts_s {a h : Nat} (ha : S1[a]? = some (1, 2 * h, [])) (hd : nI (2 * h) / 2 = nI h) (h9 : h < 900) : ∃ M', dd_X12_lifts a (S1, M, J, x) = some ((), (S1, M', J, x)) ∧ (∀ r, r ≠ a → M' r = M r) ∧ (∀ k, k < h → M' a k = M a (h + k)) ∧ ∀ k, h ≤ k → M' a k = M a k := by
  have loop : ∀ (q fu k : Nat) (M1 : Nat → Nat → Int32), k + q = h → q < fu → (∀ r, r ≠ a → M1 r = M r) → (∀ j, j < k → M1 a j = M a (h + j)) → (∀ j, k ≤ j → M1 a j = M a j) → ∃ M', bb_X12_lifts_2 fu a (nI k) (S1, M1, J, x) = some ((), (S1, M', J, x)) ∧ (∀ r, r ≠ a → M' r = M r) ∧ (∀ k, k < h → M' a k = M a (h + k)) ∧ ∀ k, h ≤ k → M' a k = M a k := by
    intro q
    induction q with
    | zero =>
      intro fu k M1 e1 e2 e3 e4 e5
      obtain ⟨fu, rfl⟩ : ∃ z, fu = z + 1 := ⟨fu - 1, by omega⟩
      have ek : k = h := by omega
      subst ek
      refine ⟨M1, ?_, e3, e4, e5⟩
      rw [bb_X12_lifts_2, op_len ha, ob_s, if_neg (by decide), hd, if_pos (le_self _)]
    | succ q ih =>
      intro fu k M1 e1 e2 e3 e4 e5
      obtain ⟨fu, rfl⟩ : ∃ z, fu = z + 1 := ⟨fu - 1, by omega⟩
      rw [bb_X12_lifts_2, op_len ha, ob_s, if_neg (by decide), hd, if_neg (by rw [li_le (by omega) (by omega)]; omega), ob_s, if_neg (by decide), hd, li_add, op_ld ha rfl (by omega) (by omega), ob_s, op_st _ ha rfl (by omega) (by omega), ob_s, nI_1]
      refine ih fu (k + 1) _ (by omega) (by omega) (fun r hr => by rw [u_r hr]; exact e3 r hr) (fun j hj => ?_) (fun j hj => by rw [u_k (by omega)]; exact e5 j (by omega))
      by_cases e : j = k
      · rw [e, u_e]; exact e5 _ (by omega)
      · rw [u_k e]; exact e4 j (by omega)
  exact loop h ab_fu 0 M (by omega) (ab_fu_big (by omega)) (fun _ _ => rfl) (fun j hj => by omega) (fun _ _ => rfl)
theorem m_liftsAll_s : ∃ M', dd_X12_liftsAll 200 (S1, M, J, x) = some ((), (S1, M', J, x)) ∧ lft M M' := by
  obtain ⟨M1, a1, a2, a3, a4⟩ := m_lifts_s (M := M) (J := J) (x := x) (a := 202) (h := 7) rfl (by decide) (by omega)
  obtain ⟨M2, b1, b2, b3, b4⟩ := m_lifts_s (M := M1) (J := J) (x := x) (a := 203) (h := 16) rfl (by decide) (by omega)
  obtain ⟨M3, c1, c2, c3, c4⟩ := m_lifts_s (M := M2) (J := J) (x := x) (a := 204) (h := 18) rfl (by decide) (by omega)
  obtain ⟨M4, d1, d2, d3, d4⟩ := m_lifts_s (M := M3) (J := J) (x := x) (a := 205) (h := 6) rfl (by decide) (by omega)
  obtain ⟨M5, e1, e2, e3, e4⟩ := m_lifts_s (M := M4) (J := J) (x := x) (a := 206) (h := 48) rfl (by decide) (by omega)
  obtain ⟨M6, f1, f2, f3, f4⟩ := m_lifts_s (M := M5) (J := J) (x := x) (a := 207) (h := 1) rfl (by decide) (by omega)
  obtain ⟨M7, g1, g2, g3, g4⟩ := m_lifts_s (M := M6) (J := J) (x := x) (a := 208) (h := 820) rfl (by decide) (by omega)
  refine ⟨M7, ?_, fun r hr => ?_, fun k hk => ?_, fun k hk => ?_, fun k hk => ?_, fun k hk => ?_, fun k hk => ?_, fun k hk => ?_, fun k hk => ?_⟩
  · unfold dd_X12_liftsAll
    rw [m_R2_s, ob_s, a1, ob_s, m_R3_s, ob_s, b1, ob_s, m_R4_s, ob_s, c1, ob_s, m_R5_s, ob_s, d1, ob_s, m_R6_s, ob_s, e1, ob_s, m_R7_s, ob_s, f1, ob_s, m_R8_s, ob_s, g1, ob_s]
  · rw [g2 r (by omega), f2 r (by omega), e2 r (by omega), d2 r (by omega), c2 r (by omega), b2 r (by omega), a2 r (by omega)]
  · rw [g2 202 (by omega), f2 202 (by omega), e2 202 (by omega), d2 202 (by omega), c2 202 (by omega), b2 202 (by omega)]; exact a3 k hk
  · rw [g2 203 (by omega), f2 203 (by omega), e2 203 (by omega), d2 203 (by omega), c2 203 (by omega), b3 k hk, a2 203 (by omega)]
  · rw [g2 204 (by omega), f2 204 (by omega), e2 204 (by omega), d2 204 (by omega), c3 k hk, b2 204 (by omega), a2 204 (by omega)]
  · rw [g2 205 (by omega), f2 205 (by omega), e2 205 (by omega), d3 k hk, c2 205 (by omega), b2 205 (by omega), a2 205 (by omega)]
  · rw [g2 206 (by omega), f2 206 (by omega), e3 k hk, d2 206 (by omega), c2 206 (by omega), b2 206 (by omega), a2 206 (by omega)]
  · rw [g2 207 (by omega), f3 k hk, e2 207 (by omega), d2 207 (by omega), c2 207 (by omega), b2 207 (by omega), a2 207 (by omega)]
  · rw [g3 k hk, f2 208 (by omega), e2 208 (by omega), d2 208 (by omega), c2 208 (by omega), b2 208 (by omega), a2 208 (by omega)]
theorem m_begins0_s (hc : mc M NH NY NE NR) : ∃ M' f, dd_X12_begins 200 (S1, M, J, x) = some ((), (S1, M', jr J (prF M NH NY f), x)) ∧ f0P f ∧ (∀ r, r ≠ 200 → r ≠ 219 → M' r = M r) ∧ (∀ k, k ≠ 29 → M' 200 k = M 200 k) ∧ M' 200 29 = 0 ∧ M' 219 0 = 0 ∧ M' 219 1 = 0 := by
  have l1 : ∀ (q fu k : Nat) (f : Nat → Int64), k + q = 116 → q < fu → (∀ j, j < k → f j = 0) → ∃ f', bb_X12_begins_2 fu 200 (nI k) (S1, M, jr J f, x) = bb_X12_begins_23 ab_fu 200 0 (S1, M, jr J f', x) ∧ ∀ j, j < 116 → f' j = 0 := by
    intro q
    induction q with
    | zero =>
      intro fu k f e1 e2 e3
      obtain ⟨fu, rfl⟩ : ∃ z, fu = z + 1 := ⟨fu - 1, by omega⟩
      have ek : k = 116 := by omega
      subst ek
      exact ⟨f, by rw [bb_X12_begins_2, if_pos (by decide)], e3⟩
    | succ q ih =>
      intro fu k f e1 e2 e3
      obtain ⟨fu, rfl⟩ : ∃ z, fu = z + 1 := ⟨fu - 1, by omega⟩
      rw [bb_X12_begins_2, if_neg (by rw [li_n 116, li_le (by omega) (by omega)]; omega), m_R1_s, ob_s, m_snowJ_s _ (by omega), ob_s, nI_1]
      refine ih fu (k + 1) _ (by omega) (by omega) (fun j hj => ?_)
      by_cases e : j = k
      · rw [e, fu_e]
      · rw [fu_n e]; exact e3 j (by omega)
  have l2 : ∀ (q fu k : Nat) (f : Nat → Int64), k + q = 12 → q < fu → (∀ i, i < k → vi f i 0 = -1) → (∀ k, k < 14 → f k = 0) → ∃ fu' f', bb_X12_begins_23 fu 200 (nI k) (S1, M, jr J f, x) = bb_X12_begins_23 (fu' + 1) 200 (nI 12) (S1, M, jr J f', x) ∧ f0P f' := by
    intro q
    induction q with
    | zero =>
      intro fu k f e1 e2 e3 e4
      obtain ⟨fu, rfl⟩ : ∃ z, fu = z + 1 := ⟨fu - 1, by omega⟩
      have ek : k = 12 := by omega
      subst ek
      exact ⟨fu, f, rfl, e3, e4⟩
    | succ q ih =>
      intro fu k f e1 e2 e3 e4
      obtain ⟨fu, rfl⟩ : ∃ z, fu = z + 1 := ⟨fu - 1, by omega⟩
      have go : bb_X12_begins_23 (fu + 1) 200 (nI k) (S1, M, jr J f, x) = bb_X12_begins_23 fu 200 (nI (k + 1)) (S1, M, jr J (_root_.Jvm.Pilot.CCloudMarketLaw_law_r9680_97fdf1.fu f (14 + 6 * k + 0) (-1)), x) := by
        rw [bb_X12_begins_23, if_neg (li_12 (by omega)), m_R1_s, ob_s, m_of0, ob_s, m_snowJ_s _ (by omega), ob_s, nI_1]
      rw [go]
      refine ih fu (k + 1) _ (by omega) (by omega) (fun i hi => ?_) (fun j hj => ?_)
      · by_cases e : i = k
        · rw [e]; exact fu_e
        · have : vi (_root_.Jvm.Pilot.CCloudMarketLaw_law_r9680_97fdf1.fu f (14 + 6 * k + 0) (-1)) i 0 = vi f i 0 := fu_n (by omega)
          rw [this]; exact e3 i (by omega)
      · rw [fu_n (by omega)]; exact e4 j hj
  have hj : jr J (J 201) = J := jr_id J
  obtain ⟨f1, a1, a2⟩ := l1 116 ab_fu 0 (J 201) (by omega) (ab_fu_big (by omega)) (fun j hj => by omega)
  obtain ⟨fu', f2, b1, b2⟩ := l2 12 ab_fu 0 f1 (by omega) (ab_fu_big (by omega)) (fun i hi => by omega) (fun j hj => a2 j (by omega))
  have hw : wfs NH NY NE f2 := fun i hi hr => by rw [f0_rn b2 hi] at hr; cases hr
  refine ⟨ab_u (ab_u (ab_u M 200 29 0) 219 0 0) 219 1 0, f2, ?_, b2, fun r p1 p2 => by rw [u_r p2, u_r p2, u_r p1], fun k hk => by rw [u_r (by omega), u_r (by omega), u_k hk], by rw [u_r (by omega), u_r (by omega), u_e], by rw [u_k (by omega), u_e], u_e⟩
  unfold dd_X12_begins
  rw [hj] at a1
  refine a1.trans (b1.trans ?_)
  have z1 : (0 : Int32) &&& 1 = 0 := by decide
  rw [bb_X12_begins_23, if_pos li_12e, m_rc_s, ob_s, m_prices_s hc hw, ob_s, m_P29_s, ob_s, m_R32_s, ob_s, z1, op_st _ sh_217_s li_0 (by omega) (by omega), ob_s, m_R32_s, ob_s, op_st _ sh_217_s (li_n 1) (by omega) (by omega), ob_s]
end
section
variable {I I' I0 I1 I2 I3 I4 M M' M0 M1 M2 Z : Nat → Nat → Int32} {J J' J1 J2 J3 J4 : Nat → Nat → Int64} {x x' : Nat} {NH NY NE NR N : Nat} {f g : Nat → Int64} {T : Nat → Int32}
theorem m_clear0_s : ∃ M', dd_X12_clearDraft 200 (S1, M, J, x) = some ((), (S1, M', J, x)) ∧ (∀ r, r ≠ 202 → r ≠ 207 → r ≠ 208 → M' r = M r) ∧ (∀ k, k < 7 → M' 202 k = M 202 k) ∧ M' 207 0 = M 207 0 ∧ (∀ k, k ≠ 820 → M' 208 k = M 208 k) ∧ dm0 M' := by
  have e70 : (7 : Int32) + 0 = nI (7 + 0) := by decide
  have e71 : (7 : Int32) + 1 = nI (7 + 1) := by decide
  have loop : ∀ (q fu k : Nat) (M1 : Nat → Nat → Int32), k + q = 4 → q < fu → (∀ r, r ≠ 202 → M1 r = M r) → (∀ j, j < 7 → M1 202 j = M 202 j) → (∀ j, j < k → M1 202 (7 + j) = 0) → ∃ M2 fu', bb_X12_clearDraft_2 fu 200 (nI k) (S1, M1, J, x) = bb_X12_clearDraft_2 (fu' + 1) 200 (nI 4) (S1, M2, J, x) ∧ (∀ r, r ≠ 202 → M2 r = M r) ∧ (∀ j, j < 7 → M2 202 j = M 202 j) ∧ (∀ j, j < 4 → M2 202 (7 + j) = 0) := by
    intro q
    induction q with
    | zero =>
      intro fu k M1 e1 e2 e3 e4 e5
      obtain ⟨fu, rfl⟩ : ∃ z, fu = z + 1 := ⟨fu - 1, by omega⟩
      have ek : k = 4 := by omega
      subst ek
      exact ⟨M1, fu, rfl, e3, e4, e5⟩
    | succ q ih =>
      intro fu k M1 e1 e2 e3 e4 e5
      obtain ⟨fu, rfl⟩ : ∃ z, fu = z + 1 := ⟨fu - 1, by omega⟩
      have e7 : (7 : Int32) + nI k = nI (7 + k) := by
        show nI 7 + nI k = _
        rw [li_add]
      have go : bb_X12_clearDraft_2 (fu + 1) 200 (nI k) (S1, M1, J, x) = bb_X12_clearDraft_2 fu 200 (nI (k + 1)) (S1, ab_u M1 202 (7 + k) 0, J, x) := by
        rw [bb_X12_clearDraft_2, if_neg (by rw [li_n 4, li_le (by omega) (by omega)]; omega), m_R2_s, ob_s, e7, op_st _ sh_200_s rfl (by omega) (by omega), ob_s, nI_1]
      rw [go]
      refine ih fu (k + 1) _ (by omega) (by omega) (fun r hr => by rw [u_r hr]; exact e3 r hr) (fun j hj => by rw [u_k (by omega)]; exact e4 j hj) (fun j hj => ?_)
      by_cases e : j = k
      · rw [e, u_e]
      · rw [u_k (by omega)]; exact e5 j (by omega)
  obtain ⟨M2, fu', a1, a2, a3, a4⟩ := loop 4 ab_fu 0 M (by omega) (ab_fu_big (by omega)) (fun _ _ => rfl) (fun _ _ => rfl) (fun j hj => by omega)
  have em := m_emit_s (M := ab_u (ab_u (ab_u (ab_u M2 202 11 20) 202 12 2) 202 13 100) 207 1 0) (J := J) (x := x) (n := 0) 2 u_e (by omega)
  refine ⟨ab_u (ab_u (ab_u (ab_u (ab_u (ab_u M2 202 11 20) 202 12 2) 202 13 100) 207 1 0) 208 (820 + 0) 2) 207 1 (nI (0 + 1)), ?_, fun r p1 p2 p3 => ?_, fun k hk => ?_, ?_, fun k hk => ?_, ⟨?_, ?_, ?_, ?_⟩, ⟨?_, ?_, ?_⟩, ?_, ?_⟩
  · refine a1.trans ?_
    rw [bb_X12_clearDraft_2, if_pos (by decide), m_R2_s, ob_s, op_st _ sh_200_s (li_n 11) (by omega) (by omega), ob_s, m_R2_s, ob_s, op_st _ sh_200_s (li_n 12) (by omega) (by omega), ob_s, m_R2_s, ob_s, op_st _ sh_200_s (li_n 13) (by omega) (by omega), ob_s, m_R7_s, ob_s, op_st _ sh_205_s (li_n 1) (by omega) (by omega), ob_s, m_rc_s, ob_s, em, ob_s]
  · rw [u_r p2, u_r p3, u_r p2, u_r p1, u_r p1, u_r p1, a2 r p1]
  · rw [u_r (by omega), u_r (by omega), u_r (by omega), u_k (by omega), u_k (by omega), u_k (by omega)]; exact a3 k hk
  · rw [u_k (by omega), u_r (by omega), u_k (by omega), u_r (by omega), u_r (by omega), u_r (by omega), a2 207 (by omega)]
  · rw [u_r (by omega), u_k (by omega), u_r (by omega), u_r (by omega), u_r (by omega), u_r (by omega), a2 208 (by omega)]
  · rw [u_r (by omega), u_r (by omega), u_r (by omega), u_k (by omega), u_k (by omega), u_k (by omega)]; exact a4 0 (by omega)
  · rw [u_r (by omega), u_r (by omega), u_r (by omega), u_k (by omega), u_k (by omega), u_k (by omega)]; exact a4 1 (by omega)
  · rw [u_r (by omega), u_r (by omega), u_r (by omega), u_k (by omega), u_k (by omega), u_k (by omega)]; exact a4 2 (by omega)
  · rw [u_r (by omega), u_r (by omega), u_r (by omega), u_k (by omega), u_k (by omega), u_k (by omega)]; exact a4 3 (by omega)
  · rw [u_r (by omega), u_r (by omega), u_r (by omega), u_k (by omega), u_k (by omega), u_e]
  · rw [u_r (by omega), u_r (by omega), u_r (by omega), u_k (by omega), u_e]
  · rw [u_r (by omega), u_r (by omega), u_r (by omega), u_e]
  · rw [u_e]
  · rw [u_r (by omega), u_e]
end
