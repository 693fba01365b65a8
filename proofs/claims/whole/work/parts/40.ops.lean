/-! ===== the memory behind the constructors: its shape; reads and writes there (by program: wip/whole/ops.py) ===== -/
def S0 : List ab_Sh := [(0, 11, [some (some 1), some (some 18), some (some 32), some (some 42), some (some 52), some (some 175), some (some 180), some (some 192), some (some 195)]), (0, 7, [some (some 2), none, some (some 3), some (some 4), none, none, none, none, none, none, none]), (2, 800, []), (2, 800, []), (0, 1, [some (some 5), some (some 7), some (some 9), some (some 11), some (some 13), some (some 15)]), (0, 10, [none, none, some (some 6), none]), (1, 16, []), (0, 10, [none, none, some (some 8), none]), (1, 18, []), (0, 10, [none, none, some (some 10), none]), (1, 6, []), (0, 10, [none, none, some (some 12), none]), (1, 48, []), (0, 10, [none, none, some (some 14), none]), (1, 3, []), (0, 9, [some (some 16), none, some (some 17)]), (1, 800, []), (1, 16, []), (0, 1, [some (some 19), some (some 21), some (some 23), some (some 25), some (some 27), some (some 29)]), (0, 10, [none, none, some (some 20), none]), (1, 16, []), (0, 10, [none, none, some (some 22), none]), (1, 18, []), (0, 10, [none, none, some (some 24), none]), (1, 6, []), (0, 10, [none, none, some (some 26), none]), (1, 48, []), (0, 10, [none, none, some (some 28), none]), (1, 3, []), (0, 9, [some (some 30), none, some (some 31)]), (1, 800, []), (1, 16, []), (0, 8, [none, none, some (some 33), some (some 35), some (some 37), some (some 39), some (some 41)]), (0, 10, [none, none, some (some 34), none]), (1, 72, []), (0, 10, [none, none, some (some 36), none]), (1, 30, []), (0, 10, [none, none, some (some 38), none]), (1, 6, []), (0, 10, [none, none, some (some 40), none]), (1, 16, []), (4, 6, []), (0, 8, [none, none, some (some 43), some (some 45), some (some 47), some (some 49), some (some 51)]), (0, 10, [none, none, some (some 44), none]), (1, 72, []), (0, 10, [none, none, some (some 46), none]), (1, 30, []), (0, 10, [none, none, some (some 48), none]), (1, 6, []), (0, 10, [none, none, some (some 50), none]), (1, 16, []), (4, 6, []), (0, 4, [some (some 53), some (some 54), none, none, none]), (5, 10, [some (some 55), some (some 65), some (some 75), some (some 85), some (some 95), some (some 105), some (some 115), some (some 125), some (some 135), some (some 145)]), (5, 2, [some (some 155), some (some 165)]), (0, 8, [none, none, some (some 56), some (some 58), some (some 60), some (some 62), some (some 64)]), (0, 10, [none, none, some (some 57), none]), (1, 72, []), (0, 10, [none, none, some (some 59), none]), (1, 30, []), (0, 10, [none, none, some (some 61), none]), (1, 6, []), (0, 10, [none, none, some (some 63), none]), (1, 16, []), (4, 6, []), (0, 8, [none, none, some (some 66), some (some 68), some (some 70), some (some 72), some (some 74)]), (0, 10, [none, none, some (some 67), none]), (1, 72, []), (0, 10, [none, none, some (some 69), none]), (1, 30, []), (0, 10, [none, none, some (some 71), none]), (1, 6, []), (0, 10, [none, none, some (some 73), none]), (1, 16, []), (4, 6, []), (0, 8, [none, none, some (some 76), some (some 78), some (some 80), some (some 82), some (some 84)]), (0, 10, [none, none, some (some 77), none]), (1, 72, []), (0, 10, [none, none, some (some 79), none]), (1, 30, []), (0, 10, [none, none, some (some 81), none]), (1, 6, []), (0, 10, [none, none, some (some 83), none]), (1, 16, []), (4, 6, []), (0, 8, [none, none, some (some 86), some (some 88), some (some 90), some (some 92), some (some 94)]), (0, 10, [none, none, some (some 87), none]), (1, 72, []), (0, 10, [none, none, some (some 89), none]), (1, 30, []), (0, 10, [none, none, some (some 91), none]), (1, 6, []), (0, 10, [none, none, some (some 93), none]), (1, 16, []), (4, 6, []), (0, 8, [none, none, some (some 96), some (some 98), some (some 100), some (some 102), some (some 104)]), (0, 10, [none, none, some (some 97), none]), (1, 72, []), (0, 10, [none, none, some (some 99), none]), (1, 30, []), (0, 10, [none, none, some (some 101), none]), (1, 6, []), (0, 10, [none, none, some (some 103), none]), (1, 16, []), (4, 6, []), (0, 8, [none, none, some (some 106), some (some 108), some (some 110), some (some 112), some (some 114)]), (0, 10, [none, none, some (some 107), none]), (1, 72, []), (0, 10, [none, none, some (some 109), none]), (1, 30, []), (0, 10, [none, none, some (some 111), none]), (1, 6, []), (0, 10, [none, none, some (some 113), none]), (1, 16, []), (4, 6, []), (0, 8, [none, none, some (some 116), some (some 118), some (some 120), some (some 122), some (some 124)]), (0, 10, [none, none, some (some 117), none]), (1, 72, []), (0, 10, [none, none, some (some 119), none]), (1, 30, []), (0, 10, [none, none, some (some 121), none]), (1, 6, []), (0, 10, [none, none, some (some 123), none]), (1, 16, []), (4, 6, []), (0, 8, [none, none, some (some 126), some (some 128), some (some 130), some (some 132), some (some 134)]), (0, 10, [none, none, some (some 127), none]), (1, 72, []), (0, 10, [none, none, some (some 129), none]), (1, 30, []), (0, 10, [none, none, some (some 131), none]), (1, 6, []), (0, 10, [none, none, some (some 133), none]), (1, 16, []), (4, 6, []), (0, 8, [none, none, some (some 136), some (some 138), some (some 140), some (some 142), some (some 144)]), (0, 10, [none, none, some (some 137), none]), (1, 72, []), (0, 10, [none, none, some (some 139), none]), (1, 30, []), (0, 10, [none, none, some (some 141), none]), (1, 6, []), (0, 10, [none, none, some (some 143), none]), (1, 16, []), (4, 6, []), (0, 8, [none, none, some (some 146), some (some 148), some (some 150), some (some 152), some (some 154)]), (0, 10, [none, none, some (some 147), none]), (1, 72, []), (0, 10, [none, none, some (some 149), none]), (1, 30, []), (0, 10, [none, none, some (some 151), none]), (1, 6, []), (0, 10, [none, none, some (some 153), none]), (1, 16, []), (4, 6, []), (0, 8, [none, none, some (some 156), some (some 158), some (some 160), some (some 162), some (some 164)]), (0, 10, [none, none, some (some 157), none]), (1, 72, []), (0, 10, [none, none, some (some 159), none]), (1, 30, []), (0, 10, [none, none, some (some 161), none]), (1, 6, []), (0, 10, [none, none, some (some 163), none]), (1, 16, []), (4, 6, []), (0, 8, [none, none, some (some 166), some (some 168), some (some 170), some (some 172), some (some 174)]), (0, 10, [none, none, some (some 167), none]), (1, 72, []), (0, 10, [none, none, some (some 169), none]), (1, 30, []), (0, 10, [none, none, some (some 171), none]), (1, 6, []), (0, 10, [none, none, some (some 173), none]), (1, 16, []), (4, 6, []), (0, 0, [some (some 176), some (some 178)]), (0, 10, [none, none, some (some 177), none]), (1, 6, []), (0, 10, [none, none, some (some 179), none]), (1, 36, []), (0, 6, [some (some 181), some (some 182), some (some 183), some (some 185), some (some 186), some (some 189)]), (1, 729, []), (1, 729, []), (0, 10, [none, none, some (some 184), none]), (1, 1458, []), (1, 6, []), (0, 5, [some (some 187), some (some 188), none]), (1, 6, []), (1, 6, []), (0, 5, [some (some 190), some (some 191), none]), (1, 6, []), (1, 6, []), (0, 3, [some (some 193), none, none]), (0, 10, [none, none, some (some 194), none]), (1, 48, []), (0, 2, [some (some 196), some (some 197), none, some (some 198)]), (1, 5, []), (1, 5, []), (0, 10, [none, none, some (some 199), none]), (1, 16, []), (0, 12, [none, some (some 201), some (some 202), some (some 203), some (some 204), some (some 205), some (some 206), some (some 207), some (some 208), some (some 209), none, none, none, none, none, none, none, none, none, none, none, some (some 210), some (some 211), some (some 212), some (some 213), some (some 214), some (some 215), none, some (some 216), none, some (some 217), some (some 218), some (some 219)]), (4, 116, []), (1, 14, []), (1, 32, []), (1, 36, []), (1, 12, []), (1, 96, []), (1, 2, []), (1, 1640, []), (2, 800, []), (1, 40, []), (1, 4096, []), (1, 4096, []), (1, 4096, []), (1, 4096, []), (1, 12, []), (4, 116, []), (4, 1160, []), (4, 232, []), (3, 2, []), (4, 1, [])]
section OP
variable {S : List ab_Sh} {I : Nat → Nat → Int32} {J : Nat → Nat → Int64} {x : Nat}
theorem op_fI {ci r k : Nat} {fs : List (Option (Option Nat))} (h : S[r]? = some (0, ci, fs)) (hk : fs[k]? = some none) : ab_fI (S, I, J, x) ci r k = some (I r k) := by
  have e : ab_fld (S, I, J, x) ci r k = some none := by
    unfold ab_fld
    rw [h]
    show cond (Nat.beq ci ci) _ _ = _
    rw [Nat.beq_refl]
    exact hk
  unfold ab_fI
  rw [e]
theorem op_fR {ci r k q : Nat} {fs : List (Option (Option Nat))} (h : S[r]? = some (0, ci, fs)) (hk : fs[k]? = some (some (some q))) : ab_fR (S, I, J, x) ci r k = some q := by
  have e : ab_fld (S, I, J, x) ci r k = some (some (some q)) := by
    unfold ab_fld
    rw [h]
    show cond (Nat.beq ci ci) _ _ = _
    rw [Nat.beq_refl]
    exact hk
  unfold ab_fR
  rw [e]
theorem op_pI {ci r k : Nat} {fs : List (Option (Option Nat))} (v : Int32) (h : S[r]? = some (0, ci, fs)) (hk : fs[k]? = some none) : ab_pI (S, I, J, x) ci r k v = some (S, ab_u I r k v, J, x) := by
  have e : ab_fld (S, I, J, x) ci r k = some none := by
    unfold ab_fld
    rw [h]
    show cond (Nat.beq ci ci) _ _ = _
    rw [Nat.beq_refl]
    exact hk
  unfold ab_pI
  rw [e]
theorem op_rc {ci r : Nat} {fs : List (Option (Option Nat))} (h : S[r]? = some (0, ci, fs)) : ab_rc (S, I, J, x) ci r = some () := by
  unfold ab_rc
  rw [h]
  show cond (Nat.beq ci ci) _ _ = _
  rw [Nat.beq_refl]
  rfl
theorem op_len {kd r n : Nat} {fs : List (Option (Option Nat))} (h : S[r]? = some (kd, n, fs)) : ab_len (S, I, J, x) kd r = some (nI n) := by
  unfold ab_len
  rw [h]
  show (if kd = kd then _ else _) = _
  rw [if_pos rfl]
  rfl
theorem op_in {i : Int32} {j n : Nat} (hi : i = nI j) (hj : j < n) (hn : n < 2 ^ 31) : ¬ (i < 0 ∨ n ≤ i.toNatClampNeg) := by
  rw [hi]
  exact nI_in hj hn
theorem op_cl {i : Int32} {j n : Nat} (hi : i = nI j) (hj : j < n) (hn : n < 2 ^ 31) : i.toNatClampNeg = j := by
  rw [hi]
  exact nI_clamp (by omega)
theorem op_ld {kd r n j : Nat} {i : Int32} {fs : List (Option (Option Nat))} (h : S[r]? = some (kd, n, fs)) (hi : i = nI j) (hj : j < n) (hn : n < 2 ^ 31) : ab_ld (S, I, J, x) kd r i = some (I r j) := by
  unfold ab_ld
  rw [h]
  show (if kd = kd ∧ _ then _ else _) = _
  rw [if_pos ⟨rfl, op_in hi hj hn⟩, op_cl hi hj hn]
theorem op_st {kd r n j : Nat} {i : Int32} (v : Int32) {fs : List (Option (Option Nat))} (h : S[r]? = some (kd, n, fs)) (hi : i = nI j) (hj : j < n) (hn : n < 2 ^ 31) : ab_st (S, I, J, x) kd r i v = some (S, ab_u I r j v, J, x) := by
  unfold ab_st
  rw [h]
  show (if kd = kd ∧ _ then _ else _) = _
  rw [if_pos ⟨rfl, op_in hi hj hn⟩, op_cl hi hj hn]
theorem op_ldJ {r n j : Nat} {i : Int32} {fs : List (Option (Option Nat))} (h : S[r]? = some (4, n, fs)) (hi : i = nI j) (hj : j < n) (hn : n < 2 ^ 31) : ab_ldJ (S, I, J, x) r i = some (J r j) := by
  unfold ab_ldJ
  rw [h]
  show (if 4 = 4 ∧ _ then _ else _) = _
  rw [if_pos ⟨rfl, op_in hi hj hn⟩, op_cl hi hj hn]
theorem op_stJ {r n j : Nat} {i : Int32} (v : Int64) {fs : List (Option (Option Nat))} (h : S[r]? = some (4, n, fs)) (hi : i = nI j) (hj : j < n) (hn : n < 2 ^ 31) : ab_stJ (S, I, J, x) r i v = some (S, I, ab_u J r j v, x) := by
  unfold ab_stJ
  rw [h]
  show (if 4 = 4 ∧ _ then _ else _) = _
  rw [if_pos ⟨rfl, op_in hi hj hn⟩, op_cl hi hj hn]
theorem op_ldR {r n j q : Nat} {i : Int32} {fs : List (Option (Option Nat))} (h : S[r]? = some (5, n, fs)) (hi : i = nI j) (hj : j < n) (hn : n < 2 ^ 31) (hq : fs[j]? = some (some (some q))) : ab_ldR (S, I, J, x) r i = some q := by
  unfold ab_ldR
  rw [h]
  show (if 5 = 5 ∧ _ then _ else _) = _
  rw [if_pos ⟨rfl, op_in hi hj hn⟩, op_cl hi hj hn, hq]
theorem op_cpI {r0 r1 n0 n1 a b k : Nat} {sp dp n : Int32} {f0 f1 : List (Option (Option Nat))} (h0 : S[r0]? = some (1, n0, f0)) (h1 : S[r1]? = some (1, n1, f1)) (hs : sp = nI a) (hd : dp = nI b) (hn : n = nI k) (ha : a + k ≤ n0) (hb : b + k ≤ n1) (z0 : n0 < 2 ^ 31) (z1 : n1 < 2 ^ 31) : ab_cpI (S, I, J, x) r0 sp r1 dp n = some (S, ab_cp I r0 a r1 b k, J, x) := by
  unfold ab_cpI
  rw [h0, h1]
  have e1 : sp.toNatClampNeg = a := by rw [hs]; exact nI_clamp (by omega)
  have e2 : dp.toNatClampNeg = b := by rw [hd]; exact nI_clamp (by omega)
  have e3 : n.toNatClampNeg = k := by rw [hn]; exact nI_clamp (by omega)
  show (if 1 = 1 ∧ 1 = 1 ∧ _ then _ else _) = _
  rw [if_pos, e1, e2, e3]
  refine ⟨rfl, rfl, ?_, ?_, ?_, ?_, ?_⟩
  · rw [hs]; exact nI_pos (by omega)
  · rw [hd]; exact nI_pos (by omega)
  · rw [hn]; exact nI_pos (by omega)
  · rw [e1, e3]; exact ha
  · rw [e2, e3]; exact hb
theorem op_cpJ {r0 r1 n0 n1 a b k : Nat} {sp dp n : Int32} {f0 f1 : List (Option (Option Nat))} (h0 : S[r0]? = some (4, n0, f0)) (h1 : S[r1]? = some (4, n1, f1)) (hs : sp = nI a) (hd : dp = nI b) (hn : n = nI k) (ha : a + k ≤ n0) (hb : b + k ≤ n1) (z0 : n0 < 2 ^ 31) (z1 : n1 < 2 ^ 31) : ab_cpJ (S, I, J, x) r0 sp r1 dp n = some (S, I, ab_cp J r0 a r1 b k, x) := by
  unfold ab_cpJ
  rw [h0, h1]
  have e1 : sp.toNatClampNeg = a := by rw [hs]; exact nI_clamp (by omega)
  have e2 : dp.toNatClampNeg = b := by rw [hd]; exact nI_clamp (by omega)
  have e3 : n.toNatClampNeg = k := by rw [hn]; exact nI_clamp (by omega)
  show (if 4 = 4 ∧ 4 = 4 ∧ _ then _ else _) = _
  rw [if_pos, e1, e2, e3]
  refine ⟨rfl, rfl, ?_, ?_, ?_, ?_, ?_⟩
  · rw [hs]; exact nI_pos (by omega)
  · rw [hd]; exact nI_pos (by omega)
  · rw [hn]; exact nI_pos (by omega)
  · rw [e1, e3]; exact ha
  · rw [e2, e3]; exact hb
end OP
abbrev ok_X0 (s : Nat) : Prop := S0[s]? = some (0, 0, [some (some (s + 1)), some (some (s + 3))])
theorem rc_X0 {s : Nat} {I : Nat → Nat → Int32} {J : Nat → Nat → Int64} {x : Nat} (h : ok_X0 s) : ab_rc (S0, I, J, x) 0 s = some () := op_rc h
theorem fR_X0_0 {s : Nat} {I : Nat → Nat → Int32} {J : Nat → Nat → Int64} {x : Nat} (h : ok_X0 s) : ab_fR (S0, I, J, x) 0 s 0 = some (s + 1) := op_fR h rfl
theorem fR_X0_1 {s : Nat} {I : Nat → Nat → Int32} {J : Nat → Nat → Int64} {x : Nat} (h : ok_X0 s) : ab_fR (S0, I, J, x) 0 s 1 = some (s + 3) := op_fR h rfl
abbrev ok_X1 (s : Nat) : Prop := S0[s]? = some (0, 1, [some (some (s + 1)), some (some (s + 3)), some (some (s + 5)), some (some (s + 7)), some (some (s + 9)), some (some (s + 11))])
theorem rc_X1 {s : Nat} {I : Nat → Nat → Int32} {J : Nat → Nat → Int64} {x : Nat} (h : ok_X1 s) : ab_rc (S0, I, J, x) 1 s = some () := op_rc h
theorem fR_X1_0 {s : Nat} {I : Nat → Nat → Int32} {J : Nat → Nat → Int64} {x : Nat} (h : ok_X1 s) : ab_fR (S0, I, J, x) 1 s 0 = some (s + 1) := op_fR h rfl
theorem fR_X1_1 {s : Nat} {I : Nat → Nat → Int32} {J : Nat → Nat → Int64} {x : Nat} (h : ok_X1 s) : ab_fR (S0, I, J, x) 1 s 1 = some (s + 3) := op_fR h rfl
theorem fR_X1_2 {s : Nat} {I : Nat → Nat → Int32} {J : Nat → Nat → Int64} {x : Nat} (h : ok_X1 s) : ab_fR (S0, I, J, x) 1 s 2 = some (s + 5) := op_fR h rfl
theorem fR_X1_3 {s : Nat} {I : Nat → Nat → Int32} {J : Nat → Nat → Int64} {x : Nat} (h : ok_X1 s) : ab_fR (S0, I, J, x) 1 s 3 = some (s + 7) := op_fR h rfl
theorem fR_X1_4 {s : Nat} {I : Nat → Nat → Int32} {J : Nat → Nat → Int64} {x : Nat} (h : ok_X1 s) : ab_fR (S0, I, J, x) 1 s 4 = some (s + 9) := op_fR h rfl
theorem fR_X1_5 {s : Nat} {I : Nat → Nat → Int32} {J : Nat → Nat → Int64} {x : Nat} (h : ok_X1 s) : ab_fR (S0, I, J, x) 1 s 5 = some (s + 11) := op_fR h rfl
abbrev ok_X2 (s : Nat) : Prop := S0[s]? = some (0, 2, [some (some (s + 1)), some (some (s + 2)), none, some (some (s + 3))])
theorem rc_X2 {s : Nat} {I : Nat → Nat → Int32} {J : Nat → Nat → Int64} {x : Nat} (h : ok_X2 s) : ab_rc (S0, I, J, x) 2 s = some () := op_rc h
theorem fR_X2_0 {s : Nat} {I : Nat → Nat → Int32} {J : Nat → Nat → Int64} {x : Nat} (h : ok_X2 s) : ab_fR (S0, I, J, x) 2 s 0 = some (s + 1) := op_fR h rfl
theorem fR_X2_1 {s : Nat} {I : Nat → Nat → Int32} {J : Nat → Nat → Int64} {x : Nat} (h : ok_X2 s) : ab_fR (S0, I, J, x) 2 s 1 = some (s + 2) := op_fR h rfl
theorem fI_X2_2 {s : Nat} {I : Nat → Nat → Int32} {J : Nat → Nat → Int64} {x : Nat} (h : ok_X2 s) : ab_fI (S0, I, J, x) 2 s 2 = some (I s 2) := op_fI h rfl
theorem pI_X2_2 {s : Nat} {I : Nat → Nat → Int32} {J : Nat → Nat → Int64} {x : Nat} (h : ok_X2 s) (v : Int32) : ab_pI (S0, I, J, x) 2 s 2 v = some (S0, ab_u I s 2 v, J, x) := op_pI v h rfl
theorem fR_X2_3 {s : Nat} {I : Nat → Nat → Int32} {J : Nat → Nat → Int64} {x : Nat} (h : ok_X2 s) : ab_fR (S0, I, J, x) 2 s 3 = some (s + 3) := op_fR h rfl
abbrev ok_X3 (s : Nat) : Prop := S0[s]? = some (0, 3, [some (some (s + 1)), none, none])
theorem rc_X3 {s : Nat} {I : Nat → Nat → Int32} {J : Nat → Nat → Int64} {x : Nat} (h : ok_X3 s) : ab_rc (S0, I, J, x) 3 s = some () := op_rc h
theorem fR_X3_0 {s : Nat} {I : Nat → Nat → Int32} {J : Nat → Nat → Int64} {x : Nat} (h : ok_X3 s) : ab_fR (S0, I, J, x) 3 s 0 = some (s + 1) := op_fR h rfl
theorem fI_X3_1 {s : Nat} {I : Nat → Nat → Int32} {J : Nat → Nat → Int64} {x : Nat} (h : ok_X3 s) : ab_fI (S0, I, J, x) 3 s 1 = some (I s 1) := op_fI h rfl
theorem pI_X3_1 {s : Nat} {I : Nat → Nat → Int32} {J : Nat → Nat → Int64} {x : Nat} (h : ok_X3 s) (v : Int32) : ab_pI (S0, I, J, x) 3 s 1 v = some (S0, ab_u I s 1 v, J, x) := op_pI v h rfl
theorem fI_X3_2 {s : Nat} {I : Nat → Nat → Int32} {J : Nat → Nat → Int64} {x : Nat} (h : ok_X3 s) : ab_fI (S0, I, J, x) 3 s 2 = some (I s 2) := op_fI h rfl
theorem pI_X3_2 {s : Nat} {I : Nat → Nat → Int32} {J : Nat → Nat → Int64} {x : Nat} (h : ok_X3 s) (v : Int32) : ab_pI (S0, I, J, x) 3 s 2 v = some (S0, ab_u I s 2 v, J, x) := op_pI v h rfl
abbrev ok_X4 (s : Nat) : Prop := S0[s]? = some (0, 4, [some (some (s + 1)), some (some (s + 2)), none, none, none])
theorem rc_X4 {s : Nat} {I : Nat → Nat → Int32} {J : Nat → Nat → Int64} {x : Nat} (h : ok_X4 s) : ab_rc (S0, I, J, x) 4 s = some () := op_rc h
theorem fR_X4_0 {s : Nat} {I : Nat → Nat → Int32} {J : Nat → Nat → Int64} {x : Nat} (h : ok_X4 s) : ab_fR (S0, I, J, x) 4 s 0 = some (s + 1) := op_fR h rfl
theorem fR_X4_1 {s : Nat} {I : Nat → Nat → Int32} {J : Nat → Nat → Int64} {x : Nat} (h : ok_X4 s) : ab_fR (S0, I, J, x) 4 s 1 = some (s + 2) := op_fR h rfl
theorem fI_X4_2 {s : Nat} {I : Nat → Nat → Int32} {J : Nat → Nat → Int64} {x : Nat} (h : ok_X4 s) : ab_fI (S0, I, J, x) 4 s 2 = some (I s 2) := op_fI h rfl
theorem pI_X4_2 {s : Nat} {I : Nat → Nat → Int32} {J : Nat → Nat → Int64} {x : Nat} (h : ok_X4 s) (v : Int32) : ab_pI (S0, I, J, x) 4 s 2 v = some (S0, ab_u I s 2 v, J, x) := op_pI v h rfl
theorem fI_X4_3 {s : Nat} {I : Nat → Nat → Int32} {J : Nat → Nat → Int64} {x : Nat} (h : ok_X4 s) : ab_fI (S0, I, J, x) 4 s 3 = some (I s 3) := op_fI h rfl
theorem pI_X4_3 {s : Nat} {I : Nat → Nat → Int32} {J : Nat → Nat → Int64} {x : Nat} (h : ok_X4 s) (v : Int32) : ab_pI (S0, I, J, x) 4 s 3 v = some (S0, ab_u I s 3 v, J, x) := op_pI v h rfl
theorem fI_X4_4 {s : Nat} {I : Nat → Nat → Int32} {J : Nat → Nat → Int64} {x : Nat} (h : ok_X4 s) : ab_fI (S0, I, J, x) 4 s 4 = some (I s 4) := op_fI h rfl
theorem pI_X4_4 {s : Nat} {I : Nat → Nat → Int32} {J : Nat → Nat → Int64} {x : Nat} (h : ok_X4 s) (v : Int32) : ab_pI (S0, I, J, x) 4 s 4 v = some (S0, ab_u I s 4 v, J, x) := op_pI v h rfl
abbrev ok_X5 (s : Nat) : Prop := S0[s]? = some (0, 5, [some (some (s + 1)), some (some (s + 2)), none])
theorem rc_X5 {s : Nat} {I : Nat → Nat → Int32} {J : Nat → Nat → Int64} {x : Nat} (h : ok_X5 s) : ab_rc (S0, I, J, x) 5 s = some () := op_rc h
theorem fR_X5_0 {s : Nat} {I : Nat → Nat → Int32} {J : Nat → Nat → Int64} {x : Nat} (h : ok_X5 s) : ab_fR (S0, I, J, x) 5 s 0 = some (s + 1) := op_fR h rfl
theorem fR_X5_1 {s : Nat} {I : Nat → Nat → Int32} {J : Nat → Nat → Int64} {x : Nat} (h : ok_X5 s) : ab_fR (S0, I, J, x) 5 s 1 = some (s + 2) := op_fR h rfl
theorem fI_X5_2 {s : Nat} {I : Nat → Nat → Int32} {J : Nat → Nat → Int64} {x : Nat} (h : ok_X5 s) : ab_fI (S0, I, J, x) 5 s 2 = some (I s 2) := op_fI h rfl
theorem pI_X5_2 {s : Nat} {I : Nat → Nat → Int32} {J : Nat → Nat → Int64} {x : Nat} (h : ok_X5 s) (v : Int32) : ab_pI (S0, I, J, x) 5 s 2 v = some (S0, ab_u I s 2 v, J, x) := op_pI v h rfl
abbrev ok_X6 (s : Nat) : Prop := S0[s]? = some (0, 6, [some (some (s + 1)), some (some (s + 2)), some (some (s + 3)), some (some (s + 5)), some (some (s + 6)), some (some (s + 9))])
theorem rc_X6 {s : Nat} {I : Nat → Nat → Int32} {J : Nat → Nat → Int64} {x : Nat} (h : ok_X6 s) : ab_rc (S0, I, J, x) 6 s = some () := op_rc h
theorem fR_X6_0 {s : Nat} {I : Nat → Nat → Int32} {J : Nat → Nat → Int64} {x : Nat} (h : ok_X6 s) : ab_fR (S0, I, J, x) 6 s 0 = some (s + 1) := op_fR h rfl
theorem fR_X6_1 {s : Nat} {I : Nat → Nat → Int32} {J : Nat → Nat → Int64} {x : Nat} (h : ok_X6 s) : ab_fR (S0, I, J, x) 6 s 1 = some (s + 2) := op_fR h rfl
theorem fR_X6_2 {s : Nat} {I : Nat → Nat → Int32} {J : Nat → Nat → Int64} {x : Nat} (h : ok_X6 s) : ab_fR (S0, I, J, x) 6 s 2 = some (s + 3) := op_fR h rfl
theorem fR_X6_3 {s : Nat} {I : Nat → Nat → Int32} {J : Nat → Nat → Int64} {x : Nat} (h : ok_X6 s) : ab_fR (S0, I, J, x) 6 s 3 = some (s + 5) := op_fR h rfl
theorem fR_X6_4 {s : Nat} {I : Nat → Nat → Int32} {J : Nat → Nat → Int64} {x : Nat} (h : ok_X6 s) : ab_fR (S0, I, J, x) 6 s 4 = some (s + 6) := op_fR h rfl
theorem fR_X6_5 {s : Nat} {I : Nat → Nat → Int32} {J : Nat → Nat → Int64} {x : Nat} (h : ok_X6 s) : ab_fR (S0, I, J, x) 6 s 5 = some (s + 9) := op_fR h rfl
abbrev ok_X7 (s : Nat) : Prop := S0[s]? = some (0, 7, [some (some (s + 1)), none, some (some (s + 2)), some (some (s + 3)), none, none, none, none, none, none, none])
theorem rc_X7 {s : Nat} {I : Nat → Nat → Int32} {J : Nat → Nat → Int64} {x : Nat} (h : ok_X7 s) : ab_rc (S0, I, J, x) 7 s = some () := op_rc h
theorem fR_X7_0 {s : Nat} {I : Nat → Nat → Int32} {J : Nat → Nat → Int64} {x : Nat} (h : ok_X7 s) : ab_fR (S0, I, J, x) 7 s 0 = some (s + 1) := op_fR h rfl
theorem fI_X7_1 {s : Nat} {I : Nat → Nat → Int32} {J : Nat → Nat → Int64} {x : Nat} (h : ok_X7 s) : ab_fI (S0, I, J, x) 7 s 1 = some (I s 1) := op_fI h rfl
theorem pI_X7_1 {s : Nat} {I : Nat → Nat → Int32} {J : Nat → Nat → Int64} {x : Nat} (h : ok_X7 s) (v : Int32) : ab_pI (S0, I, J, x) 7 s 1 v = some (S0, ab_u I s 1 v, J, x) := op_pI v h rfl
theorem fR_X7_2 {s : Nat} {I : Nat → Nat → Int32} {J : Nat → Nat → Int64} {x : Nat} (h : ok_X7 s) : ab_fR (S0, I, J, x) 7 s 2 = some (s + 2) := op_fR h rfl
theorem fR_X7_3 {s : Nat} {I : Nat → Nat → Int32} {J : Nat → Nat → Int64} {x : Nat} (h : ok_X7 s) : ab_fR (S0, I, J, x) 7 s 3 = some (s + 3) := op_fR h rfl
theorem fI_X7_4 {s : Nat} {I : Nat → Nat → Int32} {J : Nat → Nat → Int64} {x : Nat} (h : ok_X7 s) : ab_fI (S0, I, J, x) 7 s 4 = some (I s 4) := op_fI h rfl
theorem pI_X7_4 {s : Nat} {I : Nat → Nat → Int32} {J : Nat → Nat → Int64} {x : Nat} (h : ok_X7 s) (v : Int32) : ab_pI (S0, I, J, x) 7 s 4 v = some (S0, ab_u I s 4 v, J, x) := op_pI v h rfl
theorem fI_X7_5 {s : Nat} {I : Nat → Nat → Int32} {J : Nat → Nat → Int64} {x : Nat} (h : ok_X7 s) : ab_fI (S0, I, J, x) 7 s 5 = some (I s 5) := op_fI h rfl
theorem pI_X7_5 {s : Nat} {I : Nat → Nat → Int32} {J : Nat → Nat → Int64} {x : Nat} (h : ok_X7 s) (v : Int32) : ab_pI (S0, I, J, x) 7 s 5 v = some (S0, ab_u I s 5 v, J, x) := op_pI v h rfl
theorem fI_X7_6 {s : Nat} {I : Nat → Nat → Int32} {J : Nat → Nat → Int64} {x : Nat} (h : ok_X7 s) : ab_fI (S0, I, J, x) 7 s 6 = some (I s 6) := op_fI h rfl
theorem pI_X7_6 {s : Nat} {I : Nat → Nat → Int32} {J : Nat → Nat → Int64} {x : Nat} (h : ok_X7 s) (v : Int32) : ab_pI (S0, I, J, x) 7 s 6 v = some (S0, ab_u I s 6 v, J, x) := op_pI v h rfl
theorem fI_X7_7 {s : Nat} {I : Nat → Nat → Int32} {J : Nat → Nat → Int64} {x : Nat} (h : ok_X7 s) : ab_fI (S0, I, J, x) 7 s 7 = some (I s 7) := op_fI h rfl
theorem pI_X7_7 {s : Nat} {I : Nat → Nat → Int32} {J : Nat → Nat → Int64} {x : Nat} (h : ok_X7 s) (v : Int32) : ab_pI (S0, I, J, x) 7 s 7 v = some (S0, ab_u I s 7 v, J, x) := op_pI v h rfl
theorem fI_X7_8 {s : Nat} {I : Nat → Nat → Int32} {J : Nat → Nat → Int64} {x : Nat} (h : ok_X7 s) : ab_fI (S0, I, J, x) 7 s 8 = some (I s 8) := op_fI h rfl
theorem pI_X7_8 {s : Nat} {I : Nat → Nat → Int32} {J : Nat → Nat → Int64} {x : Nat} (h : ok_X7 s) (v : Int32) : ab_pI (S0, I, J, x) 7 s 8 v = some (S0, ab_u I s 8 v, J, x) := op_pI v h rfl
theorem fI_X7_9 {s : Nat} {I : Nat → Nat → Int32} {J : Nat → Nat → Int64} {x : Nat} (h : ok_X7 s) : ab_fI (S0, I, J, x) 7 s 9 = some (I s 9) := op_fI h rfl
theorem pI_X7_9 {s : Nat} {I : Nat → Nat → Int32} {J : Nat → Nat → Int64} {x : Nat} (h : ok_X7 s) (v : Int32) : ab_pI (S0, I, J, x) 7 s 9 v = some (S0, ab_u I s 9 v, J, x) := op_pI v h rfl
theorem fI_X7_10 {s : Nat} {I : Nat → Nat → Int32} {J : Nat → Nat → Int64} {x : Nat} (h : ok_X7 s) : ab_fI (S0, I, J, x) 7 s 10 = some (I s 10) := op_fI h rfl
theorem pI_X7_10 {s : Nat} {I : Nat → Nat → Int32} {J : Nat → Nat → Int64} {x : Nat} (h : ok_X7 s) (v : Int32) : ab_pI (S0, I, J, x) 7 s 10 v = some (S0, ab_u I s 10 v, J, x) := op_pI v h rfl
abbrev ok_X8 (s : Nat) : Prop := S0[s]? = some (0, 8, [none, none, some (some (s + 1)), some (some (s + 3)), some (some (s + 5)), some (some (s + 7)), some (some (s + 9))])
theorem rc_X8 {s : Nat} {I : Nat → Nat → Int32} {J : Nat → Nat → Int64} {x : Nat} (h : ok_X8 s) : ab_rc (S0, I, J, x) 8 s = some () := op_rc h
theorem fI_X8_0 {s : Nat} {I : Nat → Nat → Int32} {J : Nat → Nat → Int64} {x : Nat} (h : ok_X8 s) : ab_fI (S0, I, J, x) 8 s 0 = some (I s 0) := op_fI h rfl
theorem pI_X8_0 {s : Nat} {I : Nat → Nat → Int32} {J : Nat → Nat → Int64} {x : Nat} (h : ok_X8 s) (v : Int32) : ab_pI (S0, I, J, x) 8 s 0 v = some (S0, ab_u I s 0 v, J, x) := op_pI v h rfl
theorem fI_X8_1 {s : Nat} {I : Nat → Nat → Int32} {J : Nat → Nat → Int64} {x : Nat} (h : ok_X8 s) : ab_fI (S0, I, J, x) 8 s 1 = some (I s 1) := op_fI h rfl
theorem pI_X8_1 {s : Nat} {I : Nat → Nat → Int32} {J : Nat → Nat → Int64} {x : Nat} (h : ok_X8 s) (v : Int32) : ab_pI (S0, I, J, x) 8 s 1 v = some (S0, ab_u I s 1 v, J, x) := op_pI v h rfl
theorem fR_X8_2 {s : Nat} {I : Nat → Nat → Int32} {J : Nat → Nat → Int64} {x : Nat} (h : ok_X8 s) : ab_fR (S0, I, J, x) 8 s 2 = some (s + 1) := op_fR h rfl
theorem fR_X8_3 {s : Nat} {I : Nat → Nat → Int32} {J : Nat → Nat → Int64} {x : Nat} (h : ok_X8 s) : ab_fR (S0, I, J, x) 8 s 3 = some (s + 3) := op_fR h rfl
theorem fR_X8_4 {s : Nat} {I : Nat → Nat → Int32} {J : Nat → Nat → Int64} {x : Nat} (h : ok_X8 s) : ab_fR (S0, I, J, x) 8 s 4 = some (s + 5) := op_fR h rfl
theorem fR_X8_5 {s : Nat} {I : Nat → Nat → Int32} {J : Nat → Nat → Int64} {x : Nat} (h : ok_X8 s) : ab_fR (S0, I, J, x) 8 s 5 = some (s + 7) := op_fR h rfl
theorem fR_X8_6 {s : Nat} {I : Nat → Nat → Int32} {J : Nat → Nat → Int64} {x : Nat} (h : ok_X8 s) : ab_fR (S0, I, J, x) 8 s 6 = some (s + 9) := op_fR h rfl
abbrev ok_X9 (s : Nat) : Prop := S0[s]? = some (0, 9, [some (some (s + 1)), none, some (some (s + 2))])
theorem rc_X9 {s : Nat} {I : Nat → Nat → Int32} {J : Nat → Nat → Int64} {x : Nat} (h : ok_X9 s) : ab_rc (S0, I, J, x) 9 s = some () := op_rc h
theorem fR_X9_0 {s : Nat} {I : Nat → Nat → Int32} {J : Nat → Nat → Int64} {x : Nat} (h : ok_X9 s) : ab_fR (S0, I, J, x) 9 s 0 = some (s + 1) := op_fR h rfl
theorem fI_X9_1 {s : Nat} {I : Nat → Nat → Int32} {J : Nat → Nat → Int64} {x : Nat} (h : ok_X9 s) : ab_fI (S0, I, J, x) 9 s 1 = some (I s 1) := op_fI h rfl
theorem pI_X9_1 {s : Nat} {I : Nat → Nat → Int32} {J : Nat → Nat → Int64} {x : Nat} (h : ok_X9 s) (v : Int32) : ab_pI (S0, I, J, x) 9 s 1 v = some (S0, ab_u I s 1 v, J, x) := op_pI v h rfl
theorem fR_X9_2 {s : Nat} {I : Nat → Nat → Int32} {J : Nat → Nat → Int64} {x : Nat} (h : ok_X9 s) : ab_fR (S0, I, J, x) 9 s 2 = some (s + 2) := op_fR h rfl
abbrev ok_X10 (s : Nat) : Prop := S0[s]? = some (0, 10, [none, none, some (some (s + 1)), none])
theorem rc_X10 {s : Nat} {I : Nat → Nat → Int32} {J : Nat → Nat → Int64} {x : Nat} (h : ok_X10 s) : ab_rc (S0, I, J, x) 10 s = some () := op_rc h
theorem fI_X10_0 {s : Nat} {I : Nat → Nat → Int32} {J : Nat → Nat → Int64} {x : Nat} (h : ok_X10 s) : ab_fI (S0, I, J, x) 10 s 0 = some (I s 0) := op_fI h rfl
theorem fI_X10_1 {s : Nat} {I : Nat → Nat → Int32} {J : Nat → Nat → Int64} {x : Nat} (h : ok_X10 s) : ab_fI (S0, I, J, x) 10 s 1 = some (I s 1) := op_fI h rfl
theorem fR_X10_2 {s : Nat} {I : Nat → Nat → Int32} {J : Nat → Nat → Int64} {x : Nat} (h : ok_X10 s) : ab_fR (S0, I, J, x) 10 s 2 = some (s + 1) := op_fR h rfl
theorem fI_X10_3 {s : Nat} {I : Nat → Nat → Int32} {J : Nat → Nat → Int64} {x : Nat} (h : ok_X10 s) : ab_fI (S0, I, J, x) 10 s 3 = some (I s 3) := op_fI h rfl
theorem pI_X10_3 {s : Nat} {I : Nat → Nat → Int32} {J : Nat → Nat → Int64} {x : Nat} (h : ok_X10 s) (v : Int32) : ab_pI (S0, I, J, x) 10 s 3 v = some (S0, ab_u I s 3 v, J, x) := op_pI v h rfl
abbrev ok_X11 (s : Nat) : Prop := S0[s]? = some (0, 11, [some (some (s + 1)), some (some (s + 18)), some (some (s + 32)), some (some (s + 42)), some (some (s + 52)), some (some (s + 175)), some (some (s + 180)), some (some (s + 192)), some (some (s + 195))])
theorem rc_X11 {s : Nat} {I : Nat → Nat → Int32} {J : Nat → Nat → Int64} {x : Nat} (h : ok_X11 s) : ab_rc (S0, I, J, x) 11 s = some () := op_rc h
theorem fR_X11_0 {s : Nat} {I : Nat → Nat → Int32} {J : Nat → Nat → Int64} {x : Nat} (h : ok_X11 s) : ab_fR (S0, I, J, x) 11 s 0 = some (s + 1) := op_fR h rfl
theorem fR_X11_1 {s : Nat} {I : Nat → Nat → Int32} {J : Nat → Nat → Int64} {x : Nat} (h : ok_X11 s) : ab_fR (S0, I, J, x) 11 s 1 = some (s + 18) := op_fR h rfl
theorem fR_X11_2 {s : Nat} {I : Nat → Nat → Int32} {J : Nat → Nat → Int64} {x : Nat} (h : ok_X11 s) : ab_fR (S0, I, J, x) 11 s 2 = some (s + 32) := op_fR h rfl
theorem fR_X11_3 {s : Nat} {I : Nat → Nat → Int32} {J : Nat → Nat → Int64} {x : Nat} (h : ok_X11 s) : ab_fR (S0, I, J, x) 11 s 3 = some (s + 42) := op_fR h rfl
theorem fR_X11_4 {s : Nat} {I : Nat → Nat → Int32} {J : Nat → Nat → Int64} {x : Nat} (h : ok_X11 s) : ab_fR (S0, I, J, x) 11 s 4 = some (s + 52) := op_fR h rfl
theorem fR_X11_5 {s : Nat} {I : Nat → Nat → Int32} {J : Nat → Nat → Int64} {x : Nat} (h : ok_X11 s) : ab_fR (S0, I, J, x) 11 s 5 = some (s + 175) := op_fR h rfl
theorem fR_X11_6 {s : Nat} {I : Nat → Nat → Int32} {J : Nat → Nat → Int64} {x : Nat} (h : ok_X11 s) : ab_fR (S0, I, J, x) 11 s 6 = some (s + 180) := op_fR h rfl
theorem fR_X11_7 {s : Nat} {I : Nat → Nat → Int32} {J : Nat → Nat → Int64} {x : Nat} (h : ok_X11 s) : ab_fR (S0, I, J, x) 11 s 7 = some (s + 192) := op_fR h rfl
theorem fR_X11_8 {s : Nat} {I : Nat → Nat → Int32} {J : Nat → Nat → Int64} {x : Nat} (h : ok_X11 s) : ab_fR (S0, I, J, x) 11 s 8 = some (s + 195) := op_fR h rfl
abbrev ok_X12 (s : Nat) : Prop := S0[s]? = some (0, 12, [none, some (some (s + 1)), some (some (s + 2)), some (some (s + 3)), some (some (s + 4)), some (some (s + 5)), some (some (s + 6)), some (some (s + 7)), some (some (s + 8)), some (some (s + 9)), none, none, none, none, none, none, none, none, none, none, none, some (some (s + 10)), some (some (s + 11)), some (some (s + 12)), some (some (s + 13)), some (some (s + 14)), some (some (s + 15)), none, some (some (s + 16)), none, some (some (s + 17)), some (some (s + 18)), some (some (s + 19))])
theorem rc_X12 {s : Nat} {I : Nat → Nat → Int32} {J : Nat → Nat → Int64} {x : Nat} (h : ok_X12 s) : ab_rc (S0, I, J, x) 12 s = some () := op_rc h
theorem fI_X12_0 {s : Nat} {I : Nat → Nat → Int32} {J : Nat → Nat → Int64} {x : Nat} (h : ok_X12 s) : ab_fI (S0, I, J, x) 12 s 0 = some (I s 0) := op_fI h rfl
theorem pI_X12_0 {s : Nat} {I : Nat → Nat → Int32} {J : Nat → Nat → Int64} {x : Nat} (h : ok_X12 s) (v : Int32) : ab_pI (S0, I, J, x) 12 s 0 v = some (S0, ab_u I s 0 v, J, x) := op_pI v h rfl
theorem fR_X12_1 {s : Nat} {I : Nat → Nat → Int32} {J : Nat → Nat → Int64} {x : Nat} (h : ok_X12 s) : ab_fR (S0, I, J, x) 12 s 1 = some (s + 1) := op_fR h rfl
theorem fR_X12_2 {s : Nat} {I : Nat → Nat → Int32} {J : Nat → Nat → Int64} {x : Nat} (h : ok_X12 s) : ab_fR (S0, I, J, x) 12 s 2 = some (s + 2) := op_fR h rfl
theorem fR_X12_3 {s : Nat} {I : Nat → Nat → Int32} {J : Nat → Nat → Int64} {x : Nat} (h : ok_X12 s) : ab_fR (S0, I, J, x) 12 s 3 = some (s + 3) := op_fR h rfl
theorem fR_X12_4 {s : Nat} {I : Nat → Nat → Int32} {J : Nat → Nat → Int64} {x : Nat} (h : ok_X12 s) : ab_fR (S0, I, J, x) 12 s 4 = some (s + 4) := op_fR h rfl
theorem fR_X12_5 {s : Nat} {I : Nat → Nat → Int32} {J : Nat → Nat → Int64} {x : Nat} (h : ok_X12 s) : ab_fR (S0, I, J, x) 12 s 5 = some (s + 5) := op_fR h rfl
theorem fR_X12_6 {s : Nat} {I : Nat → Nat → Int32} {J : Nat → Nat → Int64} {x : Nat} (h : ok_X12 s) : ab_fR (S0, I, J, x) 12 s 6 = some (s + 6) := op_fR h rfl
theorem fR_X12_7 {s : Nat} {I : Nat → Nat → Int32} {J : Nat → Nat → Int64} {x : Nat} (h : ok_X12 s) : ab_fR (S0, I, J, x) 12 s 7 = some (s + 7) := op_fR h rfl
theorem fR_X12_8 {s : Nat} {I : Nat → Nat → Int32} {J : Nat → Nat → Int64} {x : Nat} (h : ok_X12 s) : ab_fR (S0, I, J, x) 12 s 8 = some (s + 8) := op_fR h rfl
theorem fR_X12_9 {s : Nat} {I : Nat → Nat → Int32} {J : Nat → Nat → Int64} {x : Nat} (h : ok_X12 s) : ab_fR (S0, I, J, x) 12 s 9 = some (s + 9) := op_fR h rfl
theorem fI_X12_10 {s : Nat} {I : Nat → Nat → Int32} {J : Nat → Nat → Int64} {x : Nat} (h : ok_X12 s) : ab_fI (S0, I, J, x) 12 s 10 = some (I s 10) := op_fI h rfl
theorem pI_X12_10 {s : Nat} {I : Nat → Nat → Int32} {J : Nat → Nat → Int64} {x : Nat} (h : ok_X12 s) (v : Int32) : ab_pI (S0, I, J, x) 12 s 10 v = some (S0, ab_u I s 10 v, J, x) := op_pI v h rfl
theorem fI_X12_11 {s : Nat} {I : Nat → Nat → Int32} {J : Nat → Nat → Int64} {x : Nat} (h : ok_X12 s) : ab_fI (S0, I, J, x) 12 s 11 = some (I s 11) := op_fI h rfl
theorem pI_X12_11 {s : Nat} {I : Nat → Nat → Int32} {J : Nat → Nat → Int64} {x : Nat} (h : ok_X12 s) (v : Int32) : ab_pI (S0, I, J, x) 12 s 11 v = some (S0, ab_u I s 11 v, J, x) := op_pI v h rfl
theorem fI_X12_12 {s : Nat} {I : Nat → Nat → Int32} {J : Nat → Nat → Int64} {x : Nat} (h : ok_X12 s) : ab_fI (S0, I, J, x) 12 s 12 = some (I s 12) := op_fI h rfl
theorem pI_X12_12 {s : Nat} {I : Nat → Nat → Int32} {J : Nat → Nat → Int64} {x : Nat} (h : ok_X12 s) (v : Int32) : ab_pI (S0, I, J, x) 12 s 12 v = some (S0, ab_u I s 12 v, J, x) := op_pI v h rfl
theorem fI_X12_13 {s : Nat} {I : Nat → Nat → Int32} {J : Nat → Nat → Int64} {x : Nat} (h : ok_X12 s) : ab_fI (S0, I, J, x) 12 s 13 = some (I s 13) := op_fI h rfl
theorem pI_X12_13 {s : Nat} {I : Nat → Nat → Int32} {J : Nat → Nat → Int64} {x : Nat} (h : ok_X12 s) (v : Int32) : ab_pI (S0, I, J, x) 12 s 13 v = some (S0, ab_u I s 13 v, J, x) := op_pI v h rfl
theorem fI_X12_14 {s : Nat} {I : Nat → Nat → Int32} {J : Nat → Nat → Int64} {x : Nat} (h : ok_X12 s) : ab_fI (S0, I, J, x) 12 s 14 = some (I s 14) := op_fI h rfl
theorem pI_X12_14 {s : Nat} {I : Nat → Nat → Int32} {J : Nat → Nat → Int64} {x : Nat} (h : ok_X12 s) (v : Int32) : ab_pI (S0, I, J, x) 12 s 14 v = some (S0, ab_u I s 14 v, J, x) := op_pI v h rfl
theorem fI_X12_15 {s : Nat} {I : Nat → Nat → Int32} {J : Nat → Nat → Int64} {x : Nat} (h : ok_X12 s) : ab_fI (S0, I, J, x) 12 s 15 = some (I s 15) := op_fI h rfl
theorem pI_X12_15 {s : Nat} {I : Nat → Nat → Int32} {J : Nat → Nat → Int64} {x : Nat} (h : ok_X12 s) (v : Int32) : ab_pI (S0, I, J, x) 12 s 15 v = some (S0, ab_u I s 15 v, J, x) := op_pI v h rfl
theorem fI_X12_16 {s : Nat} {I : Nat → Nat → Int32} {J : Nat → Nat → Int64} {x : Nat} (h : ok_X12 s) : ab_fI (S0, I, J, x) 12 s 16 = some (I s 16) := op_fI h rfl
theorem pI_X12_16 {s : Nat} {I : Nat → Nat → Int32} {J : Nat → Nat → Int64} {x : Nat} (h : ok_X12 s) (v : Int32) : ab_pI (S0, I, J, x) 12 s 16 v = some (S0, ab_u I s 16 v, J, x) := op_pI v h rfl
theorem fI_X12_17 {s : Nat} {I : Nat → Nat → Int32} {J : Nat → Nat → Int64} {x : Nat} (h : ok_X12 s) : ab_fI (S0, I, J, x) 12 s 17 = some (I s 17) := op_fI h rfl
theorem pI_X12_17 {s : Nat} {I : Nat → Nat → Int32} {J : Nat → Nat → Int64} {x : Nat} (h : ok_X12 s) (v : Int32) : ab_pI (S0, I, J, x) 12 s 17 v = some (S0, ab_u I s 17 v, J, x) := op_pI v h rfl
theorem fI_X12_18 {s : Nat} {I : Nat → Nat → Int32} {J : Nat → Nat → Int64} {x : Nat} (h : ok_X12 s) : ab_fI (S0, I, J, x) 12 s 18 = some (I s 18) := op_fI h rfl
theorem pI_X12_18 {s : Nat} {I : Nat → Nat → Int32} {J : Nat → Nat → Int64} {x : Nat} (h : ok_X12 s) (v : Int32) : ab_pI (S0, I, J, x) 12 s 18 v = some (S0, ab_u I s 18 v, J, x) := op_pI v h rfl
theorem fI_X12_19 {s : Nat} {I : Nat → Nat → Int32} {J : Nat → Nat → Int64} {x : Nat} (h : ok_X12 s) : ab_fI (S0, I, J, x) 12 s 19 = some (I s 19) := op_fI h rfl
theorem pI_X12_19 {s : Nat} {I : Nat → Nat → Int32} {J : Nat → Nat → Int64} {x : Nat} (h : ok_X12 s) (v : Int32) : ab_pI (S0, I, J, x) 12 s 19 v = some (S0, ab_u I s 19 v, J, x) := op_pI v h rfl
theorem fI_X12_20 {s : Nat} {I : Nat → Nat → Int32} {J : Nat → Nat → Int64} {x : Nat} (h : ok_X12 s) : ab_fI (S0, I, J, x) 12 s 20 = some (I s 20) := op_fI h rfl
theorem pI_X12_20 {s : Nat} {I : Nat → Nat → Int32} {J : Nat → Nat → Int64} {x : Nat} (h : ok_X12 s) (v : Int32) : ab_pI (S0, I, J, x) 12 s 20 v = some (S0, ab_u I s 20 v, J, x) := op_pI v h rfl
theorem fR_X12_21 {s : Nat} {I : Nat → Nat → Int32} {J : Nat → Nat → Int64} {x : Nat} (h : ok_X12 s) : ab_fR (S0, I, J, x) 12 s 21 = some (s + 10) := op_fR h rfl
theorem fR_X12_22 {s : Nat} {I : Nat → Nat → Int32} {J : Nat → Nat → Int64} {x : Nat} (h : ok_X12 s) : ab_fR (S0, I, J, x) 12 s 22 = some (s + 11) := op_fR h rfl
theorem fR_X12_23 {s : Nat} {I : Nat → Nat → Int32} {J : Nat → Nat → Int64} {x : Nat} (h : ok_X12 s) : ab_fR (S0, I, J, x) 12 s 23 = some (s + 12) := op_fR h rfl
theorem fR_X12_24 {s : Nat} {I : Nat → Nat → Int32} {J : Nat → Nat → Int64} {x : Nat} (h : ok_X12 s) : ab_fR (S0, I, J, x) 12 s 24 = some (s + 13) := op_fR h rfl
theorem fR_X12_25 {s : Nat} {I : Nat → Nat → Int32} {J : Nat → Nat → Int64} {x : Nat} (h : ok_X12 s) : ab_fR (S0, I, J, x) 12 s 25 = some (s + 14) := op_fR h rfl
theorem fR_X12_26 {s : Nat} {I : Nat → Nat → Int32} {J : Nat → Nat → Int64} {x : Nat} (h : ok_X12 s) : ab_fR (S0, I, J, x) 12 s 26 = some (s + 15) := op_fR h rfl
theorem fI_X12_27 {s : Nat} {I : Nat → Nat → Int32} {J : Nat → Nat → Int64} {x : Nat} (h : ok_X12 s) : ab_fI (S0, I, J, x) 12 s 27 = some (I s 27) := op_fI h rfl
theorem pI_X12_27 {s : Nat} {I : Nat → Nat → Int32} {J : Nat → Nat → Int64} {x : Nat} (h : ok_X12 s) (v : Int32) : ab_pI (S0, I, J, x) 12 s 27 v = some (S0, ab_u I s 27 v, J, x) := op_pI v h rfl
theorem fR_X12_28 {s : Nat} {I : Nat → Nat → Int32} {J : Nat → Nat → Int64} {x : Nat} (h : ok_X12 s) : ab_fR (S0, I, J, x) 12 s 28 = some (s + 16) := op_fR h rfl
theorem fI_X12_29 {s : Nat} {I : Nat → Nat → Int32} {J : Nat → Nat → Int64} {x : Nat} (h : ok_X12 s) : ab_fI (S0, I, J, x) 12 s 29 = some (I s 29) := op_fI h rfl
theorem pI_X12_29 {s : Nat} {I : Nat → Nat → Int32} {J : Nat → Nat → Int64} {x : Nat} (h : ok_X12 s) (v : Int32) : ab_pI (S0, I, J, x) 12 s 29 v = some (S0, ab_u I s 29 v, J, x) := op_pI v h rfl
theorem fR_X12_30 {s : Nat} {I : Nat → Nat → Int32} {J : Nat → Nat → Int64} {x : Nat} (h : ok_X12 s) : ab_fR (S0, I, J, x) 12 s 30 = some (s + 17) := op_fR h rfl
theorem fR_X12_31 {s : Nat} {I : Nat → Nat → Int32} {J : Nat → Nat → Int64} {x : Nat} (h : ok_X12 s) : ab_fR (S0, I, J, x) 12 s 31 = some (s + 18) := op_fR h rfl
theorem fR_X12_32 {s : Nat} {I : Nat → Nat → Int32} {J : Nat → Nat → Int64} {x : Nat} (h : ok_X12 s) : ab_fR (S0, I, J, x) 12 s 32 = some (s + 19) := op_fR h rfl
