/-! ===== small rows for the printed proofs ===== -/
theorem ab_in0 {w : Cond} (h : w ∈ k2_sels lw_privs) : w ∈ lw_tbl := List.mem_append_left _ h
theorem ab_at0 {w : Cond} (i : Nat) (h : (k2_sels lw_privs)[i]? = some w) (hg : goodWord w = true) : w ∈ ab_tb := ab_tb_of (ab_in0 (List.mem_of_getElem? h)) hg
theorem ab_in1 {w : Cond} (h : w ∈ tables_1_1) : w ∈ lw_tbl := List.mem_append_right _ (List.mem_append_left _ h)
theorem ab_at1 {w : Cond} (i : Nat) (h : (tables_1_1)[i]? = some w) (hg : goodWord w = true) : w ∈ ab_tb := ab_tb_of (ab_in1 (List.mem_of_getElem? h)) hg
theorem ab_in2 {w : Cond} (h : w ∈ tables_1_2) : w ∈ lw_tbl := List.mem_append_right _ (List.mem_append_right _ (List.mem_append_left _ h))
theorem ab_at2 {w : Cond} (i : Nat) (h : (tables_1_2)[i]? = some w) (hg : goodWord w = true) : w ∈ ab_tb := ab_tb_of (ab_in2 (List.mem_of_getElem? h)) hg
theorem ab_in3 {w : Cond} (h : w ∈ tables_1_3) : w ∈ lw_tbl := List.mem_append_right _ (List.mem_append_right _ (List.mem_append_right _ (List.mem_append_left _ h)))
theorem ab_at3 {w : Cond} (i : Nat) (h : (tables_1_3)[i]? = some w) (hg : goodWord w = true) : w ∈ ab_tb := ab_tb_of (ab_in3 (List.mem_of_getElem? h)) hg
theorem ab_in4 {w : Cond} (h : w ∈ tables_1_4) : w ∈ lw_tbl := List.mem_append_right _ (List.mem_append_right _ (List.mem_append_right _ (List.mem_append_right _ (List.mem_append_left _ h))))
theorem ab_at4 {w : Cond} (i : Nat) (h : (tables_1_4)[i]? = some w) (hg : goodWord w = true) : w ∈ ab_tb := ab_tb_of (ab_in4 (List.mem_of_getElem? h)) hg
theorem ab_in5 {w : Cond} (h : w ∈ tables_1_5) : w ∈ lw_tbl := List.mem_append_right _ (List.mem_append_right _ (List.mem_append_right _ (List.mem_append_right _ (List.mem_append_right _ (List.mem_append_left _ h)))))
theorem ab_at5 {w : Cond} (i : Nat) (h : (tables_1_5)[i]? = some w) (hg : goodWord w = true) : w ∈ ab_tb := ab_tb_of (ab_in5 (List.mem_of_getElem? h)) hg
theorem ab_in6 {w : Cond} (h : w ∈ tables_1_6) : w ∈ lw_tbl := List.mem_append_right _ (List.mem_append_right _ (List.mem_append_right _ (List.mem_append_right _ (List.mem_append_right _ (List.mem_append_right _ (List.mem_append_left _ h))))))
theorem ab_at6 {w : Cond} (i : Nat) (h : (tables_1_6)[i]? = some w) (hg : goodWord w = true) : w ∈ ab_tb := ab_tb_of (ab_in6 (List.mem_of_getElem? h)) hg
theorem ab_in7 {w : Cond} (h : w ∈ tables_1_7) : w ∈ lw_tbl := List.mem_append_right _ (List.mem_append_right _ (List.mem_append_right _ (List.mem_append_right _ (List.mem_append_right _ (List.mem_append_right _ (List.mem_append_right _ (List.mem_append_left _ h)))))))
theorem ab_at7 {w : Cond} (i : Nat) (h : (tables_1_7)[i]? = some w) (hg : goodWord w = true) : w ∈ ab_tb := ab_tb_of (ab_in7 (List.mem_of_getElem? h)) hg
theorem ab_in8 {w : Cond} (h : w ∈ tables_1_8) : w ∈ lw_tbl := List.mem_append_right _ (List.mem_append_right _ (List.mem_append_right _ (List.mem_append_right _ (List.mem_append_right _ (List.mem_append_right _ (List.mem_append_right _ (List.mem_append_right _ (h))))))))
theorem ab_at8 {w : Cond} (i : Nat) (h : (tables_1_8)[i]? = some w) (hg : goodWord w = true) : w ∈ ab_tb := ab_tb_of (ab_in8 (List.mem_of_getElem? h)) hg
def ab_fu : Nat := 1000000
theorem ab_iff {α : Type} {c : Prop} {inst : Decidable c} {a b : Option α} {z : α} (h : (@ite _ c inst a b) = some z) : (c ∧ a = some z) ∨ (¬ c ∧ b = some z) := by
  by_cases hc : c
  · rw [if_pos hc] at h; exact Or.inl ⟨hc, h⟩
  · rw [if_neg hc] at h; exact Or.inr ⟨hc, h⟩
theorem ab_inc {x v : Int32} {n : Int} (h : Int32.ofInt n = v) : x + Int32.ofInt n = x + v := by rw [h]
theorem ab_ne_int {x c : Int32} {k : Int} (h : ¬ x = c) (e : c.toInt = k) : x.toInt ≠ k := fun q => h (Int32.toInt_inj.mp (q.trans e.symm))
def ab_oxI : Int32 ⊕ Nat → ab_O
  | .inl v => .inl (some (.int v))
  | .inr k => .inr k
def ab_oxJ : Int64 ⊕ Nat → ab_O
  | .inl v => .inl (some (.long v))
  | .inr k => .inr k
def ab_oxV : Unit ⊕ Nat → ab_O
  | .inl _ => .inl none
  | .inr k => .inr k
def ab_ck (i n : Int32) : Option Unit := if ¬ i < 0 ∧ i < n then some () else none
/-! ===== words and links by their places (by program: wip/whole/facts.py) ===== -/
theorem fi_X0 : ∀ w ∈ u_ws RX0 TX0 2, w ∈ ab_tb := by
  show ∀ w ∈ [u_lay RX0 TX0 0, u_lay RX0 TX0 1], w ∈ ab_tb
  exact (List.forall_mem_cons.mpr ⟨ab_at2 41 (by decide +kernel) (by decide +kernel), (List.forall_mem_cons.mpr ⟨ab_at2 43 (by decide +kernel) (by decide +kernel), (fun _ h => by cases h)⟩)⟩)
theorem fi_X1 : ∀ w ∈ u_ws RX1 TX1 6, w ∈ ab_tb := by
  show ∀ w ∈ [u_lay RX1 TX1 0, u_lay RX1 TX1 1, u_lay RX1 TX1 2, u_lay RX1 TX1 3, u_lay RX1 TX1 4, u_lay RX1 TX1 5], w ∈ ab_tb
  exact (List.forall_mem_cons.mpr ⟨ab_at1 150 (by decide +kernel) (by decide +kernel), (List.forall_mem_cons.mpr ⟨ab_at1 152 (by decide +kernel) (by decide +kernel), (List.forall_mem_cons.mpr ⟨ab_at1 154 (by decide +kernel) (by decide +kernel), (List.forall_mem_cons.mpr ⟨ab_at1 156 (by decide +kernel) (by decide +kernel), (List.forall_mem_cons.mpr ⟨ab_at1 158 (by decide +kernel) (by decide +kernel), (List.forall_mem_cons.mpr ⟨ab_at1 160 (by decide +kernel) (by decide +kernel), (fun _ h => by cases h)⟩)⟩)⟩)⟩)⟩)⟩)
theorem fi_X2 : ∀ w ∈ u_ws RX2 TX2 4, w ∈ ab_tb := by
  show ∀ w ∈ [u_lay RX2 TX2 0, u_lay RX2 TX2 1, u_lay RX2 TX2 2, u_lay RX2 TX2 3], w ∈ ab_tb
  exact (List.forall_mem_cons.mpr ⟨ab_at2 122 (by decide +kernel) (by decide +kernel), (List.forall_mem_cons.mpr ⟨ab_at2 124 (by decide +kernel) (by decide +kernel), (List.forall_mem_cons.mpr ⟨ab_at2 126 (by decide +kernel) (by decide +kernel), (List.forall_mem_cons.mpr ⟨ab_at2 128 (by decide +kernel) (by decide +kernel), (fun _ h => by cases h)⟩)⟩)⟩)⟩)
theorem fi_X3 : ∀ w ∈ u_ws RX3 TX3 3, w ∈ ab_tb := by
  show ∀ w ∈ [u_lay RX3 TX3 0, u_lay RX3 TX3 1, u_lay RX3 TX3 2], w ∈ ab_tb
  exact (List.forall_mem_cons.mpr ⟨ab_at2 103 (by decide +kernel) (by decide +kernel), (List.forall_mem_cons.mpr ⟨ab_at2 105 (by decide +kernel) (by decide +kernel), (List.forall_mem_cons.mpr ⟨ab_at2 107 (by decide +kernel) (by decide +kernel), (fun _ h => by cases h)⟩)⟩)⟩)
theorem fi_X4 : ∀ w ∈ u_ws RX4 TX4 5, w ∈ ab_tb := by
  show ∀ w ∈ [u_lay RX4 TX4 0, u_lay RX4 TX4 1, u_lay RX4 TX4 2, u_lay RX4 TX4 3, u_lay RX4 TX4 4], w ∈ ab_tb
  exact (List.forall_mem_cons.mpr ⟨ab_at2 19 (by decide +kernel) (by decide +kernel), (List.forall_mem_cons.mpr ⟨ab_at2 21 (by decide +kernel) (by decide +kernel), (List.forall_mem_cons.mpr ⟨ab_at2 23 (by decide +kernel) (by decide +kernel), (List.forall_mem_cons.mpr ⟨ab_at2 25 (by decide +kernel) (by decide +kernel), (List.forall_mem_cons.mpr ⟨ab_at2 27 (by decide +kernel) (by decide +kernel), (fun _ h => by cases h)⟩)⟩)⟩)⟩)⟩)
theorem fi_X5 : ∀ w ∈ u_ws RX5 TX5 3, w ∈ ab_tb := by
  show ∀ w ∈ [u_lay RX5 TX5 0, u_lay RX5 TX5 1, u_lay RX5 TX5 2], w ∈ ab_tb
  exact (List.forall_mem_cons.mpr ⟨ab_at2 66 (by decide +kernel) (by decide +kernel), (List.forall_mem_cons.mpr ⟨ab_at2 68 (by decide +kernel) (by decide +kernel), (List.forall_mem_cons.mpr ⟨ab_at2 70 (by decide +kernel) (by decide +kernel), (fun _ h => by cases h)⟩)⟩)⟩)
theorem fi_X6 : ∀ w ∈ u_ws RX6 TX6 6, w ∈ ab_tb := by
  show ∀ w ∈ [u_lay RX6 TX6 0, u_lay RX6 TX6 1, u_lay RX6 TX6 2, u_lay RX6 TX6 3, u_lay RX6 TX6 4, u_lay RX6 TX6 5], w ∈ ab_tb
  exact (List.forall_mem_cons.mpr ⟨ab_at2 79 (by decide +kernel) (by decide +kernel), (List.forall_mem_cons.mpr ⟨ab_at2 81 (by decide +kernel) (by decide +kernel), (List.forall_mem_cons.mpr ⟨ab_at2 83 (by decide +kernel) (by decide +kernel), (List.forall_mem_cons.mpr ⟨ab_at2 85 (by decide +kernel) (by decide +kernel), (List.forall_mem_cons.mpr ⟨ab_at2 87 (by decide +kernel) (by decide +kernel), (List.forall_mem_cons.mpr ⟨ab_at2 89 (by decide +kernel) (by decide +kernel), (fun _ h => by cases h)⟩)⟩)⟩)⟩)⟩)⟩)
theorem fi_X7 : ∀ w ∈ u_ws RX7 TX7 11, w ∈ ab_tb := by
  show ∀ w ∈ [u_lay RX7 TX7 0, u_lay RX7 TX7 1, u_lay RX7 TX7 2, u_lay RX7 TX7 3, u_lay RX7 TX7 4, u_lay RX7 TX7 5, u_lay RX7 TX7 6, u_lay RX7 TX7 7, u_lay RX7 TX7 8, u_lay RX7 TX7 9, u_lay RX7 TX7 10], w ∈ ab_tb
  exact (List.forall_mem_cons.mpr ⟨ab_at1 177 (by decide +kernel) (by decide +kernel), (List.forall_mem_cons.mpr ⟨ab_at1 179 (by decide +kernel) (by decide +kernel), (List.forall_mem_cons.mpr ⟨ab_at1 181 (by decide +kernel) (by decide +kernel), (List.forall_mem_cons.mpr ⟨ab_at1 183 (by decide +kernel) (by decide +kernel), (List.forall_mem_cons.mpr ⟨ab_at1 185 (by decide +kernel) (by decide +kernel), (List.forall_mem_cons.mpr ⟨ab_at1 187 (by decide +kernel) (by decide +kernel), (List.forall_mem_cons.mpr ⟨ab_at1 189 (by decide +kernel) (by decide +kernel), (List.forall_mem_cons.mpr ⟨ab_at1 191 (by decide +kernel) (by decide +kernel), (List.forall_mem_cons.mpr ⟨ab_at1 193 (by decide +kernel) (by decide +kernel), (List.forall_mem_cons.mpr ⟨ab_at1 195 (by decide +kernel) (by decide +kernel), (List.forall_mem_cons.mpr ⟨ab_at1 197 (by decide +kernel) (by decide +kernel), (fun _ h => by cases h)⟩)⟩)⟩)⟩)⟩)⟩)⟩)⟩)⟩)⟩)⟩)
theorem fi_X8 : ∀ w ∈ u_ws RX8 TX8 7, w ∈ ab_tb := by
  show ∀ w ∈ [u_lay RX8 TX8 0, u_lay RX8 TX8 1, u_lay RX8 TX8 2, u_lay RX8 TX8 3, u_lay RX8 TX8 4, u_lay RX8 TX8 5, u_lay RX8 TX8 6], w ∈ ab_tb
  exact (List.forall_mem_cons.mpr ⟨ab_at1 228 (by decide +kernel) (by decide +kernel), (List.forall_mem_cons.mpr ⟨ab_at1 230 (by decide +kernel) (by decide +kernel), (List.forall_mem_cons.mpr ⟨ab_at1 232 (by decide +kernel) (by decide +kernel), (List.forall_mem_cons.mpr ⟨ab_at1 234 (by decide +kernel) (by decide +kernel), (List.forall_mem_cons.mpr ⟨ab_at1 236 (by decide +kernel) (by decide +kernel), (List.forall_mem_cons.mpr ⟨ab_at1 238 (by decide +kernel) (by decide +kernel), (List.forall_mem_cons.mpr ⟨ab_at2 0 (by decide +kernel) (by decide +kernel), (fun _ h => by cases h)⟩)⟩)⟩)⟩)⟩)⟩)⟩)
theorem fi_X9 : ∀ w ∈ u_ws RX9 TX9 3, w ∈ ab_tb := by
  show ∀ w ∈ [u_lay RX9 TX9 0, u_lay RX9 TX9 1, u_lay RX9 TX9 2], w ∈ ab_tb
  exact (List.forall_mem_cons.mpr ⟨ab_at1 92 (by decide +kernel) (by decide +kernel), (List.forall_mem_cons.mpr ⟨ab_at1 94 (by decide +kernel) (by decide +kernel), (List.forall_mem_cons.mpr ⟨ab_at1 96 (by decide +kernel) (by decide +kernel), (fun _ h => by cases h)⟩)⟩)⟩)
theorem fi_X10 : ∀ w ∈ u_ws RX10 TX10 4, w ∈ ab_tb := by
  show ∀ w ∈ [u_lay RX10 TX10 0, u_lay RX10 TX10 1, u_lay RX10 TX10 2, u_lay RX10 TX10 3], w ∈ ab_tb
  exact (List.forall_mem_cons.mpr ⟨ab_at1 72 (by decide +kernel) (by decide +kernel), (List.forall_mem_cons.mpr ⟨ab_at1 74 (by decide +kernel) (by decide +kernel), (List.forall_mem_cons.mpr ⟨ab_at1 76 (by decide +kernel) (by decide +kernel), (List.forall_mem_cons.mpr ⟨ab_at1 78 (by decide +kernel) (by decide +kernel), (fun _ h => by cases h)⟩)⟩)⟩)⟩)
theorem fi_X11 : ∀ w ∈ u_ws RX11 TX11 9, w ∈ ab_tb := by
  show ∀ w ∈ [u_lay RX11 TX11 0, u_lay RX11 TX11 1, u_lay RX11 TX11 2, u_lay RX11 TX11 3, u_lay RX11 TX11 4, u_lay RX11 TX11 5, u_lay RX11 TX11 6, u_lay RX11 TX11 7, u_lay RX11 TX11 8], w ∈ ab_tb
  exact (List.forall_mem_cons.mpr ⟨ab_at2 140 (by decide +kernel) (by decide +kernel), (List.forall_mem_cons.mpr ⟨ab_at2 142 (by decide +kernel) (by decide +kernel), (List.forall_mem_cons.mpr ⟨ab_at2 144 (by decide +kernel) (by decide +kernel), (List.forall_mem_cons.mpr ⟨ab_at2 146 (by decide +kernel) (by decide +kernel), (List.forall_mem_cons.mpr ⟨ab_at2 148 (by decide +kernel) (by decide +kernel), (List.forall_mem_cons.mpr ⟨ab_at2 150 (by decide +kernel) (by decide +kernel), (List.forall_mem_cons.mpr ⟨ab_at2 152 (by decide +kernel) (by decide +kernel), (List.forall_mem_cons.mpr ⟨ab_at2 154 (by decide +kernel) (by decide +kernel), (List.forall_mem_cons.mpr ⟨ab_at2 156 (by decide +kernel) (by decide +kernel), (fun _ h => by cases h)⟩)⟩)⟩)⟩)⟩)⟩)⟩)⟩)⟩)
theorem fi_X12 : ∀ w ∈ u_ws RX12 TX12 33, w ∈ ab_tb := by
  show ∀ w ∈ [u_lay RX12 TX12 0, u_lay RX12 TX12 1, u_lay RX12 TX12 2, u_lay RX12 TX12 3, u_lay RX12 TX12 4, u_lay RX12 TX12 5, u_lay RX12 TX12 6, u_lay RX12 TX12 7, u_lay RX12 TX12 8, u_lay RX12 TX12 9, u_lay RX12 TX12 10, u_lay RX12 TX12 11, u_lay RX12 TX12 12, u_lay RX12 TX12 13, u_lay RX12 TX12 14, u_lay RX12 TX12 15, u_lay RX12 TX12 16, u_lay RX12 TX12 17, u_lay RX12 TX12 18, u_lay RX12 TX12 19, u_lay RX12 TX12 20, u_lay RX12 TX12 21, u_lay RX12 TX12 22, u_lay RX12 TX12 23, u_lay RX12 TX12 24, u_lay RX12 TX12 25, u_lay RX12 TX12 26, u_lay RX12 TX12 27, u_lay RX12 TX12 28, u_lay RX12 TX12 29, u_lay RX12 TX12 30, u_lay RX12 TX12 31, u_lay RX12 TX12 32], w ∈ ab_tb
  exact (List.forall_mem_cons.mpr ⟨ab_at6 163 (by decide +kernel) (by decide +kernel), (List.forall_mem_cons.mpr ⟨ab_at6 165 (by decide +kernel) (by decide +kernel), (List.forall_mem_cons.mpr ⟨ab_at6 167 (by decide +kernel) (by decide +kernel), (List.forall_mem_cons.mpr ⟨ab_at6 169 (by decide +kernel) (by decide +kernel), (List.forall_mem_cons.mpr ⟨ab_at6 171 (by decide +kernel) (by decide +kernel), (List.forall_mem_cons.mpr ⟨ab_at6 173 (by decide +kernel) (by decide +kernel), (List.forall_mem_cons.mpr ⟨ab_at6 175 (by decide +kernel) (by decide +kernel), (List.forall_mem_cons.mpr ⟨ab_at6 177 (by decide +kernel) (by decide +kernel), (List.forall_mem_cons.mpr ⟨ab_at6 179 (by decide +kernel) (by decide +kernel), (List.forall_mem_cons.mpr ⟨ab_at6 181 (by decide +kernel) (by decide +kernel), (List.forall_mem_cons.mpr ⟨ab_at6 183 (by decide +kernel) (by decide +kernel), (List.forall_mem_cons.mpr ⟨ab_at6 185 (by decide +kernel) (by decide +kernel), (List.forall_mem_cons.mpr ⟨ab_at6 187 (by decide +kernel) (by decide +kernel), (List.forall_mem_cons.mpr ⟨ab_at6 189 (by decide +kernel) (by decide +kernel), (List.forall_mem_cons.mpr ⟨ab_at6 191 (by decide +kernel) (by decide +kernel), (List.forall_mem_cons.mpr ⟨ab_at6 193 (by decide +kernel) (by decide +kernel), (List.forall_mem_cons.mpr ⟨ab_at6 195 (by decide +kernel) (by decide +kernel), (List.forall_mem_cons.mpr ⟨ab_at6 197 (by decide +kernel) (by decide +kernel), (List.forall_mem_cons.mpr ⟨ab_at6 199 (by decide +kernel) (by decide +kernel), (List.forall_mem_cons.mpr ⟨ab_at6 201 (by decide +kernel) (by decide +kernel), (List.forall_mem_cons.mpr ⟨ab_at6 203 (by decide +kernel) (by decide +kernel), (List.forall_mem_cons.mpr ⟨ab_at6 205 (by decide +kernel) (by decide +kernel), (List.forall_mem_cons.mpr ⟨ab_at6 207 (by decide +kernel) (by decide +kernel), (List.forall_mem_cons.mpr ⟨ab_at6 209 (by decide +kernel) (by decide +kernel), (List.forall_mem_cons.mpr ⟨ab_at6 211 (by decide +kernel) (by decide +kernel), (List.forall_mem_cons.mpr ⟨ab_at6 213 (by decide +kernel) (by decide +kernel), (List.forall_mem_cons.mpr ⟨ab_at6 215 (by decide +kernel) (by decide +kernel), (List.forall_mem_cons.mpr ⟨ab_at6 217 (by decide +kernel) (by decide +kernel), (List.forall_mem_cons.mpr ⟨ab_at6 219 (by decide +kernel) (by decide +kernel), (List.forall_mem_cons.mpr ⟨ab_at6 221 (by decide +kernel) (by decide +kernel), (List.forall_mem_cons.mpr ⟨ab_at6 223 (by decide +kernel) (by decide +kernel), (List.forall_mem_cons.mpr ⟨ab_at6 225 (by decide +kernel) (by decide +kernel), (List.forall_mem_cons.mpr ⟨ab_at6 227 (by decide +kernel) (by decide +kernel), (fun _ h => by cases h)⟩)⟩)⟩)⟩)⟩)⟩)⟩)⟩)⟩)⟩)⟩)⟩)⟩)⟩)⟩)⟩)⟩)⟩)⟩)⟩)⟩)⟩)⟩)⟩)⟩)⟩)⟩)⟩)⟩)⟩)⟩)⟩)⟩)
theorem fa_int : Cond.arrayClass .int ∈ ab_tb := ab_at1 82 (by decide +kernel) (by decide +kernel)
theorem fa_byte : Cond.arrayClass .byte ∈ ab_tb := ab_at1 81 (by decide +kernel) (by decide +kernel)
theorem fa_boolean : Cond.arrayClass .boolean ∈ ab_tb := ab_at6 230 (by decide +kernel) (by decide +kernel)
theorem fa_long : Cond.arrayClass .long ∈ ab_tb := ab_at2 3 (by decide +kernel) (by decide +kernel)
theorem kc_b_10 : (Int8.ofInt 10).toInt32 = (10 : Int32) := by decide
theorem kc_b_100 : (Int8.ofInt 100).toInt32 = (100 : Int32) := by decide
theorem kc_b_11 : (Int8.ofInt 11).toInt32 = (11 : Int32) := by decide
theorem kc_b_116 : (Int8.ofInt 116).toInt32 = (116 : Int32) := by decide
theorem kc_b_12 : (Int8.ofInt 12).toInt32 = (12 : Int32) := by decide
theorem kc_b_122 : (Int8.ofInt 122).toInt32 = (122 : Int32) := by decide
theorem kc_b_13 : (Int8.ofInt 13).toInt32 = (13 : Int32) := by decide
theorem kc_b_14 : (Int8.ofInt 14).toInt32 = (14 : Int32) := by decide
theorem kc_b_16 : (Int8.ofInt 16).toInt32 = (16 : Int32) := by decide
theorem kc_b_20 : (Int8.ofInt 20).toInt32 = (20 : Int32) := by decide
theorem kc_b_24 : (Int8.ofInt 24).toInt32 = (24 : Int32) := by decide
theorem kc_b_32 : (Int8.ofInt 32).toInt32 = (32 : Int32) := by decide
theorem kc_b_36 : (Int8.ofInt 36).toInt32 = (36 : Int32) := by decide
theorem kc_b_40 : (Int8.ofInt 40).toInt32 = (40 : Int32) := by decide
theorem kc_b_41 : (Int8.ofInt 41).toInt32 = (41 : Int32) := by decide
theorem kc_b_42 : (Int8.ofInt 42).toInt32 = (42 : Int32) := by decide
theorem kc_b_43 : (Int8.ofInt 43).toInt32 = (43 : Int32) := by decide
theorem kc_b_45 : (Int8.ofInt 45).toInt32 = (45 : Int32) := by decide
theorem kc_b_47 : (Int8.ofInt 47).toInt32 = (47 : Int32) := by decide
theorem kc_b_48 : (Int8.ofInt 48).toInt32 = (48 : Int32) := by decide
theorem kc_b_57 : (Int8.ofInt 57).toInt32 = (57 : Int32) := by decide
theorem kc_b_59 : (Int8.ofInt 59).toInt32 = (59 : Int32) := by decide
theorem kc_b_6 : (Int8.ofInt 6).toInt32 = (6 : Int32) := by decide
theorem kc_b_63 : (Int8.ofInt 63).toInt32 = (63 : Int32) := by decide
theorem kc_b_64 : (Int8.ofInt 64).toInt32 = (64 : Int32) := by decide
theorem kc_b_7 : (Int8.ofInt 7).toInt32 = (7 : Int32) := by decide
theorem kc_b_8 : (Int8.ofInt 8).toInt32 = (8 : Int32) := by decide
theorem kc_b_86 : (Int8.ofInt 86).toInt32 = (86 : Int32) := by decide
theorem kc_b_9 : (Int8.ofInt 9).toInt32 = (9 : Int32) := by decide
theorem kc_b_96 : (Int8.ofInt 96).toInt32 = (96 : Int32) := by decide
theorem kc_b_97 : (Int8.ofInt 97).toInt32 = (97 : Int32) := by decide
theorem kc_b_99 : (Int8.ofInt 99).toInt32 = (99 : Int32) := by decide
theorem kc_b_m2 : (Int8.ofInt (-2)).toInt32 = ((-2) : Int32) := by decide
theorem kc_b_m3 : (Int8.ofInt (-3)).toInt32 = ((-3) : Int32) := by decide
theorem kc_b_m4 : (Int8.ofInt (-4)).toInt32 = ((-4) : Int32) := by decide
theorem kc_i_0 : Int32.ofInt 0 = (0 : Int32) := by decide
theorem kc_i_1 : Int32.ofInt 1 = (1 : Int32) := by decide
theorem kc_i_2 : Int32.ofInt 2 = (2 : Int32) := by decide
theorem kc_i_3 : Int32.ofInt 3 = (3 : Int32) := by decide
theorem kc_i_4 : Int32.ofInt 4 = (4 : Int32) := by decide
theorem kc_i_5 : Int32.ofInt 5 = (5 : Int32) := by decide
theorem kc_i_6 : Int32.ofInt 6 = (6 : Int32) := by decide
theorem kc_i_m1 : Int32.ofInt (-1) = ((-1) : Int32) := by decide
theorem kc_i_m8 : Int32.ofInt (-8) = ((-8) : Int32) := by decide
theorem kc_s_1000 : (Int16.ofInt 1000).toInt32 = (1000 : Int32) := by decide
theorem kc_s_1160 : (Int16.ofInt 1160).toInt32 = (1160 : Int32) := by decide
theorem kc_s_1640 : (Int16.ofInt 1640).toInt32 = (1640 : Int32) := by decide
theorem kc_s_200 : (Int16.ofInt 200).toInt32 = (200 : Int32) := by decide
theorem kc_s_232 : (Int16.ofInt 232).toInt32 = (232 : Int32) := by decide
theorem kc_s_255 : (Int16.ofInt 255).toInt32 = (255 : Int32) := by decide
theorem kc_s_256 : (Int16.ofInt 256).toInt32 = (256 : Int32) := by decide
theorem kc_s_400 : (Int16.ofInt 400).toInt32 = (400 : Int32) := by decide
theorem kc_s_4096 : (Int16.ofInt 4096).toInt32 = (4096 : Int32) := by decide
theorem kc_s_500 : (Int16.ofInt 500).toInt32 = (500 : Int32) := by decide
theorem kc_s_729 : (Int16.ofInt 729).toInt32 = (729 : Int32) := by decide
theorem kc_s_800 : (Int16.ofInt 800).toInt32 = (800 : Int32) := by decide
theorem kc_s_820 : (Int16.ofInt 820).toInt32 = (820 : Int32) := by decide
theorem kc_s_9998 : (Int16.ofInt 9998).toInt32 = (9998 : Int32) := by decide
theorem kc_s_9999 : (Int16.ofInt 9999).toInt32 = (9999 : Int32) := by decide
theorem pm_X10_1 : Cond.methodLink RX10 1 Lib.objectInit ∈ ab_tb := ab_at1 53 (by decide +kernel) (by decide +kernel)
theorem po_inst : Cond.instanceMethod Lib.objectInit ∈ ab_tb := ab_at1 34 (by decide +kernel) (by decide +kernel)
theorem po_code : Cond.code Lib.objectInit ⟨#[0xb1]⟩ 1 none ∈ ab_tb := ab_at1 35 (by decide +kernel) (by decide +kernel)
theorem pf_X10_7 : Cond.fieldLink RX10 7 (TX10 3).1 (TX10 3).2.1 (TX10 3).2.2.1 ∈ ab_tb := ab_at1 63 (by decide +kernel) (by decide +kernel)
theorem lk_X10_7 : ab_lkF RX10 7 10 3 false .int := ⟨RX10, TX10, 4, tyX10, rfl, by decide, fi_X10, tyX10_ok, nmX10, rfl, rfl, Or.inl pf_X10_7⟩
theorem pm_X10_13 : Cond.methodLink RX10 13 Lib.Math.min.name ∈ ab_tb := ab_at1 54 (by decide +kernel) (by decide +kernel)
theorem pq_min_s : Cond.static Lib.Math.min.name ∈ ab_tb := ab_at1 55 (by decide +kernel) (by decide +kernel)
theorem pq_ini : Cond.initialized "java/lang/Math" ∈ ab_tb := ab_at1 5 (by decide +kernel) (by decide +kernel)
theorem pq_min_c : Cond.code Lib.Math.min.name Lib.Math.min.code 2 (some .int) ∈ ab_tb := ab_at1 56 (by decide +kernel) (by decide +kernel)
theorem pm_X10_19 : Cond.methodLink RX10 19 Lib.Math.max.name ∈ ab_tb := ab_at1 57 (by decide +kernel) (by decide +kernel)
theorem pq_max_s : Cond.static Lib.Math.max.name ∈ ab_tb := ab_at1 58 (by decide +kernel) (by decide +kernel)
theorem pq_max_c : Cond.code Lib.Math.max.name Lib.Math.max.code 2 (some .int) ∈ ab_tb := ab_at1 59 (by decide +kernel) (by decide +kernel)
theorem pf_X10_22 : Cond.fieldLink RX10 22 (TX10 0).1 (TX10 0).2.1 (TX10 0).2.2.1 ∈ ab_tb := ab_at1 60 (by decide +kernel) (by decide +kernel)
theorem lk_X10_22 : ab_lkF RX10 22 10 0 true .int := ⟨RX10, TX10, 4, tyX10, rfl, by decide, fi_X10, tyX10_ok, nmX10, rfl, rfl, Or.inl pf_X10_22⟩
theorem pf_X10_25 : Cond.fieldLink RX10 25 (TX10 1).1 (TX10 1).2.1 (TX10 1).2.2.1 ∈ ab_tb := ab_at1 61 (by decide +kernel) (by decide +kernel)
theorem lk_X10_25 : ab_lkF RX10 25 10 1 true .int := ⟨RX10, TX10, 4, tyX10, rfl, by decide, fi_X10, tyX10_ok, nmX10, rfl, rfl, Or.inl pf_X10_25⟩
theorem pf_X10_28 : Cond.fieldLink RX10 28 (TX10 2).1 (TX10 2).2.1 (TX10 2).2.2.1 ∈ ab_tb := ab_at1 62 (by decide +kernel) (by decide +kernel)
theorem lk_X10_28 : ab_lkF RX10 28 10 2 true (.array .int) := ⟨RX10, TX10, 4, tyX10, rfl, by decide, fi_X10, tyX10_ok, nmX10, rfl, rfl, Or.inl pf_X10_28⟩
theorem pm_X0_3 : Cond.methodLink RX0 3 Lib.objectInit ∈ ab_tb := ab_at2 35 (by decide +kernel) (by decide +kernel)
theorem nw_X0_9 : ab_lkN RX0 9 10 [none, none, some none, none] := ⟨RX10, TX10, 4, tyX10, rfl, fi_X10, tyX10_ok, ab_at2 36 (by decide +kernel) (by decide +kernel), ab_at1 49 (by decide +kernel) (by decide +kernel), ab_at1 4 (by decide +kernel) (by decide +kernel), rfl, by decide +kernel⟩
theorem pm_X0_11 : Cond.methodLink RX0 11 yX10_init ∈ ab_tb := ab_at2 37 (by decide +kernel) (by decide +kernel)
theorem mf_X10_init : ab_mfI yX10_init cX10_init 3 2 := ⟨ab_at1 51 (by decide +kernel) (by decide +kernel), ab_at1 4 (by decide +kernel) (by decide +kernel), ab_at1 52 (by decide +kernel) (by decide +kernel), by decide +kernel, by decide, rfl⟩
theorem pf_X0_14 : Cond.fieldLink RX0 14 (TX0 0).1 (TX0 0).2.1 (TX0 0).2.2.1 ∈ ab_tb := ab_at2 38 (by decide +kernel) (by decide +kernel)
theorem lk_X0_14 : ab_lkF RX0 14 0 0 true (.object "CloudMarket$Table") := ⟨RX0, TX0, 2, tyX0, rfl, by decide, fi_X0, tyX0_ok, nmX0, rfl, rfl, Or.inl pf_X0_14⟩
theorem pf_X0_20 : Cond.fieldLink RX0 20 (TX0 1).1 (TX0 1).2.1 (TX0 1).2.2.1 ∈ ab_tb := ab_at2 40 (by decide +kernel) (by decide +kernel)
theorem lk_X0_20 : ab_lkF RX0 20 0 1 true (.object "CloudMarket$Table") := ⟨RX0, TX0, 2, tyX0, rfl, by decide, fi_X0, tyX0_ok, nmX0, rfl, rfl, Or.inl pf_X0_20⟩
theorem pm_X10_46 : Cond.methodLink RX10 46 yJ7_fill_53178 ∈ ab_tb := ab_at1 107 (by decide +kernel) (by decide +kernel)
theorem mf_J7_fill_53178 : ab_mfS yJ7_fill_53178 cJ7_fill_53178 4 none 2 := ⟨ab_at1 108 (by decide +kernel) (by decide +kernel), ab_at1 7 (by decide +kernel) (by decide +kernel), ab_at1 109 (by decide +kernel) (by decide +kernel), by decide +kernel, by decide⟩
theorem pf_X1_26 : Cond.fieldLink RX1 26 (TX1 3).1 (TX1 3).2.1 (TX1 3).2.2.1 ∈ ab_tb := ab_at1 140 (by decide +kernel) (by decide +kernel)
theorem lk_X1_26 : ab_lkF RX1 26 1 3 true (.object "CloudMarket$Table") := ⟨RX1, TX1, 6, tyX1, rfl, by decide, fi_X1, tyX1_ok, nmX1, rfl, rfl, Or.inl pf_X1_26⟩
theorem pm_X1_61 : Cond.methodLink RX1 61 yX10_get ∈ ab_tb := ab_at4 46 (by decide +kernel) (by decide +kernel)
theorem mf_X10_get : ab_mfV yX10_get cX10_get 4 (some .int) 2 := ⟨ab_at2 188 (by decide +kernel) (by decide +kernel), ab_at2 189 (by decide +kernel) (by decide +kernel), ab_at1 4 (by decide +kernel) (by decide +kernel), ab_at2 190 (by decide +kernel) (by decide +kernel), by decide +kernel, by decide⟩
theorem pf_X1_20 : Cond.fieldLink RX1 20 (TX1 1).1 (TX1 1).2.1 (TX1 1).2.2.1 ∈ ab_tb := ab_at1 128 (by decide +kernel) (by decide +kernel)
theorem lk_X1_20 : ab_lkF RX1 20 1 1 true (.object "CloudMarket$Table") := ⟨RX1, TX1, 6, tyX1, rfl, by decide, fi_X1, tyX1_ok, nmX1, rfl, rfl, Or.inl pf_X1_20⟩
theorem pm_X10_32 : Cond.methodLink RX10 32 yX10_get ∈ ab_tb := ab_at2 187 (by decide +kernel) (by decide +kernel)
theorem pm_X10_35 : Cond.methodLink RX10 35 yX10_set ∈ ab_tb := ab_at4 207 (by decide +kernel) (by decide +kernel)
theorem mf_X10_set : ab_mfV yX10_set cX10_set 5 none 3 := ⟨ab_at1 111 (by decide +kernel) (by decide +kernel), ab_at1 112 (by decide +kernel) (by decide +kernel), ab_at1 4 (by decide +kernel) (by decide +kernel), ab_at1 113 (by decide +kernel) (by decide +kernel), by decide +kernel, by decide⟩
theorem pf_X8_15 : Cond.fieldLink RX8 15 (TX8 1).1 (TX8 1).2.1 (TX8 1).2.2.1 ∈ ab_tb := ab_at1 213 (by decide +kernel) (by decide +kernel)
theorem lk_X8_15 : ab_lkF RX8 15 8 1 false .int := ⟨RX8, TX8, 7, tyX8, rfl, by decide, fi_X8, tyX8_ok, nmX8, rfl, rfl, Or.inl pf_X8_15⟩
theorem lk_X0_67 : ab_lkF RX0 67 8 2 true (.object "CloudMarket$Table") := ⟨RX8, TX8, 7, tyX8, rfl, by decide, fi_X8, tyX8_ok, nmX8, rfl, rfl, Or.inr ⟨"CloudMarket", ab_in1 (List.mem_of_getElem? (i := 218) (by decide +kernel))⟩⟩
theorem pm_X0_44 : Cond.methodLink RX0 44 yX10_get ∈ ab_tb := ab_at4 198 (by decide +kernel) (by decide +kernel)
theorem lk_X0_73 : ab_lkF RX0 73 1 1 true (.object "CloudMarket$Table") := ⟨RX1, TX1, 6, tyX1, rfl, by decide, fi_X1, tyX1_ok, nmX1, rfl, rfl, Or.inr ⟨"CloudMarket", ab_in1 (List.mem_of_getElem? (i := 132) (by decide +kernel))⟩⟩
theorem pm_X0_52 : Cond.methodLink RX0 52 yX10_add ∈ ab_tb := ab_at4 203 (by decide +kernel) (by decide +kernel)
theorem mf_X10_add : ab_mfV yX10_add cX10_add 4 none 3 := ⟨ab_at4 204 (by decide +kernel) (by decide +kernel), ab_at4 205 (by decide +kernel) (by decide +kernel), ab_at1 4 (by decide +kernel) (by decide +kernel), ab_at4 206 (by decide +kernel) (by decide +kernel), by decide +kernel, by decide⟩
theorem lk_X0_70 : ab_lkF RX0 70 8 4 true (.object "CloudMarket$Table") := ⟨RX8, TX8, 7, tyX8, rfl, by decide, fi_X8, tyX8_ok, nmX8, rfl, rfl, Or.inr ⟨"CloudMarket", ab_in1 (List.mem_of_getElem? (i := 223) (by decide +kernel))⟩⟩
theorem pm_X0_56 : Cond.methodLink RX0 56 yX8_runs ∈ ab_tb := ab_at4 208 (by decide +kernel) (by decide +kernel)
theorem mf_X8_runs : ab_mfV yX8_runs cX8_runs 2 (some .boolean) 1 := ⟨ab_at2 225 (by decide +kernel) (by decide +kernel), ab_at2 226 (by decide +kernel) (by decide +kernel), ab_at1 8 (by decide +kernel) (by decide +kernel), ab_at2 227 (by decide +kernel) (by decide +kernel), by decide +kernel, by decide⟩
theorem pm_X0_60 : Cond.methodLink RX0 60 yX0_addInstance ∈ ab_tb := ab_at4 209 (by decide +kernel) (by decide +kernel)
theorem mf_X0_addInstance : ab_mfV yX0_addInstance cX0_addInstance 6 none 3 := ⟨ab_at4 211 (by decide +kernel) (by decide +kernel), ab_at0 23 (by decide +kernel) (by decide +kernel), ab_at1 10 (by decide +kernel) (by decide +kernel), ab_at4 212 (by decide +kernel) (by decide +kernel), by decide +kernel, by decide⟩
theorem lk_X0_26 : ab_lkF RX0 26 1 3 true (.object "CloudMarket$Table") := ⟨RX1, TX1, 6, tyX1, rfl, by decide, fi_X1, tyX1_ok, nmX1, rfl, rfl, Or.inr ⟨"CloudMarket", ab_in1 (List.mem_of_getElem? (i := 141) (by decide +kernel))⟩⟩
theorem lk_X0_31 : ab_lkF RX0 31 10 3 false .int := ⟨RX10, TX10, 4, tyX10, rfl, by decide, fi_X10, tyX10_ok, nmX10, rfl, rfl, Or.inr ⟨"CloudMarket", ab_in1 (List.mem_of_getElem? (i := 64) (by decide +kernel))⟩⟩
theorem lk_X0_35 : ab_lkF RX0 35 8 0 false .int := ⟨RX8, TX8, 7, tyX8, rfl, by decide, fi_X8, tyX8_ok, nmX8, rfl, rfl, Or.inr ⟨"CloudMarket", ab_in1 (List.mem_of_getElem? (i := 211) (by decide +kernel))⟩⟩
theorem pm_X0_40 : Cond.methodLink RX0 40 yX1_isActive ∈ ab_tb := ab_at4 194 (by decide +kernel) (by decide +kernel)
theorem mf_X1_isActive : ab_mfV yX1_isActive cX1_isActive 3 (some .boolean) 2 := ⟨ab_at4 195 (by decide +kernel) (by decide +kernel), ab_at4 196 (by decide +kernel) (by decide +kernel), ab_at1 3 (by decide +kernel) (by decide +kernel), ab_at4 197 (by decide +kernel) (by decide +kernel), by decide +kernel, by decide⟩
theorem pm_X0_48 : Cond.methodLink RX0 48 yX1_payment ∈ ab_tb := ab_at4 199 (by decide +kernel) (by decide +kernel)
theorem mf_X1_payment : ab_mfV yX1_payment cX1_payment 4 (some .int) 1 := ⟨ab_at4 200 (by decide +kernel) (by decide +kernel), ab_at4 201 (by decide +kernel) (by decide +kernel), ab_at1 3 (by decide +kernel) (by decide +kernel), ab_at4 202 (by decide +kernel) (by decide +kernel), by decide +kernel, by decide⟩
theorem pm_X0_23 : Cond.methodLink RX0 23 yX10_clear ∈ ab_tb := ab_at4 193 (by decide +kernel) (by decide +kernel)
theorem mf_X10_clear : ab_mfV yX10_clear cX10_clear 1 none 0 := ⟨ab_at1 104 (by decide +kernel) (by decide +kernel), ab_at1 105 (by decide +kernel) (by decide +kernel), ab_at1 4 (by decide +kernel) (by decide +kernel), ab_at1 106 (by decide +kernel) (by decide +kernel), by decide +kernel, by decide⟩
theorem pf_X8_36 : Cond.fieldLink RX8 36 (TX8 6).1 (TX8 6).2.1 (TX8 6).2.2.1 ∈ ab_tb := ab_at1 227 (by decide +kernel) (by decide +kernel)
theorem lk_X8_36 : ab_lkF RX8 36 8 6 true (.array .long) := ⟨RX8, TX8, 7, tyX8, rfl, by decide, fi_X8, tyX8_ok, nmX8, rfl, rfl, Or.inl pf_X8_36⟩
theorem pm_X0_64 : Cond.methodLink RX0 64 yX8_charge ∈ ab_tb := ab_at5 194 (by decide +kernel) (by decide +kernel)
theorem mf_X8_charge : ab_mfV yX8_charge cX8_charge 3 none 2 := ⟨ab_at5 195 (by decide +kernel) (by decide +kernel), ab_at5 196 (by decide +kernel) (by decide +kernel), ab_at1 8 (by decide +kernel) (by decide +kernel), ab_at5 197 (by decide +kernel) (by decide +kernel), by decide +kernel, by decide⟩
theorem pm_X9_3 : Cond.methodLink RX9 3 Lib.objectInit ∈ ab_tb := ab_at1 88 (by decide +kernel) (by decide +kernel)
theorem pf_X9_9 : Cond.fieldLink RX9 9 (TX9 0).1 (TX9 0).2.1 (TX9 0).2.2.1 ∈ ab_tb := ab_at1 89 (by decide +kernel) (by decide +kernel)
theorem lk_X9_9 : ab_lkF RX9 9 9 0 true (.array .int) := ⟨RX9, TX9, 3, tyX9, rfl, by decide, fi_X9, tyX9_ok, nmX9, rfl, rfl, Or.inl pf_X9_9⟩
theorem pf_X9_15 : Cond.fieldLink RX9 15 (TX9 1).1 (TX9 1).2.1 (TX9 1).2.2.1 ∈ ab_tb := ab_at1 90 (by decide +kernel) (by decide +kernel)
theorem lk_X9_15 : ab_lkF RX9 15 9 1 false .int := ⟨RX9, TX9, 3, tyX9, rfl, by decide, fi_X9, tyX9_ok, nmX9, rfl, rfl, Or.inl pf_X9_15⟩
theorem pf_X9_19 : Cond.fieldLink RX9 19 (TX9 2).1 (TX9 2).2.1 (TX9 2).2.2.1 ∈ ab_tb := ab_at1 91 (by decide +kernel) (by decide +kernel)
theorem lk_X9_19 : ab_lkF RX9 19 9 2 true (.array .int) := ⟨RX9, TX9, 3, tyX9, rfl, by decide, fi_X9, tyX9_ok, nmX9, rfl, rfl, Or.inl pf_X9_19⟩
theorem pf_X1_14 : Cond.fieldLink RX1 14 (TX1 0).1 (TX1 0).2.1 (TX1 0).2.2.1 ∈ ab_tb := ab_at1 122 (by decide +kernel) (by decide +kernel)
theorem lk_X1_14 : ab_lkF RX1 14 1 0 true (.object "CloudMarket$Table") := ⟨RX1, TX1, 6, tyX1, rfl, by decide, fi_X1, tyX1_ok, nmX1, rfl, rfl, Or.inl pf_X1_14⟩
theorem pm_X1_42 : Cond.methodLink RX1 42 yX10_clear ∈ ab_tb := ab_at1 103 (by decide +kernel) (by decide +kernel)
theorem pf_X1_23 : Cond.fieldLink RX1 23 (TX1 2).1 (TX1 2).2.1 (TX1 2).2.2.1 ∈ ab_tb := ab_at1 136 (by decide +kernel) (by decide +kernel)
theorem lk_X1_23 : ab_lkF RX1 23 1 2 true (.object "CloudMarket$Table") := ⟨RX1, TX1, 6, tyX1, rfl, by decide, fi_X1, tyX1_ok, nmX1, rfl, rfl, Or.inl pf_X1_23⟩
theorem pf_X1_29 : Cond.fieldLink RX1 29 (TX1 4).1 (TX1 4).2.1 (TX1 4).2.2.1 ∈ ab_tb := ab_at1 144 (by decide +kernel) (by decide +kernel)
theorem lk_X1_29 : ab_lkF RX1 29 1 4 true (.object "CloudMarket$Table") := ⟨RX1, TX1, 6, tyX1, rfl, by decide, fi_X1, tyX1_ok, nmX1, rfl, rfl, Or.inl pf_X1_29⟩
theorem pm_X1_45 : Cond.methodLink RX1 45 yX10_set ∈ ab_tb := ab_at1 110 (by decide +kernel) (by decide +kernel)
theorem pf_X1_35 : Cond.fieldLink RX1 35 (TX1 5).1 (TX1 5).2.1 (TX1 5).2.2.1 ∈ ab_tb := ab_at1 147 (by decide +kernel) (by decide +kernel)
theorem lk_X1_35 : ab_lkF RX1 35 1 5 true (.object "CloudMarket$Sum") := ⟨RX1, TX1, 6, tyX1, rfl, by decide, fi_X1, tyX1_ok, nmX1, rfl, rfl, Or.inl pf_X1_35⟩
theorem pm_X1_49 : Cond.methodLink RX1 49 yX9_clear ∈ ab_tb := ab_at1 114 (by decide +kernel) (by decide +kernel)
theorem mf_X9_clear : ab_mfV yX9_clear cX9_clear 1 none 0 := ⟨ab_at1 115 (by decide +kernel) (by decide +kernel), ab_at1 116 (by decide +kernel) (by decide +kernel), ab_at1 6 (by decide +kernel) (by decide +kernel), ab_at1 117 (by decide +kernel) (by decide +kernel), by decide +kernel, by decide⟩
theorem pm_X1_50 : Cond.methodLink RX1 50 yX9_add ∈ ab_tb := ab_at1 118 (by decide +kernel) (by decide +kernel)
theorem mf_X9_add : ab_mfV yX9_add cX9_add 2 none 1 := ⟨ab_at1 119 (by decide +kernel) (by decide +kernel), ab_at1 120 (by decide +kernel) (by decide +kernel), ab_at1 6 (by decide +kernel) (by decide +kernel), ab_at1 121 (by decide +kernel) (by decide +kernel), by decide +kernel, by decide⟩
theorem pm_X1_3 : Cond.methodLink RX1 3 Lib.objectInit ∈ ab_tb := ab_at1 47 (by decide +kernel) (by decide +kernel)
theorem nw_X1_9 : ab_lkN RX1 9 10 [none, none, some none, none] := ⟨RX10, TX10, 4, tyX10, rfl, fi_X10, tyX10_ok, ab_at1 48 (by decide +kernel) (by decide +kernel), ab_at1 49 (by decide +kernel) (by decide +kernel), ab_at1 4 (by decide +kernel) (by decide +kernel), rfl, by decide +kernel⟩
theorem pm_X1_11 : Cond.methodLink RX1 11 yX10_init ∈ ab_tb := ab_at1 50 (by decide +kernel) (by decide +kernel)
theorem nw_X1_32 : ab_lkN RX1 32 9 [some none, none, some none] := ⟨RX9, TX9, 3, tyX9, rfl, fi_X9, tyX9_ok, ab_at1 83 (by decide +kernel) (by decide +kernel), ab_at1 84 (by decide +kernel) (by decide +kernel), ab_at1 6 (by decide +kernel) (by decide +kernel), rfl, by decide +kernel⟩
theorem pn_X1_34 : ∃ host, Cond.methodLinkNest RX1 34 yX9_init host ∈ lw_tbl := ⟨"CloudMarket", ab_in1 (List.mem_of_getElem? (i := 85) (by decide +kernel))⟩
theorem mf_X9_init : ab_mfI yX9_init cX9_init 1 0 := ⟨ab_at1 86 (by decide +kernel) (by decide +kernel), ab_at1 6 (by decide +kernel) (by decide +kernel), ab_at1 87 (by decide +kernel) (by decide +kernel), by decide +kernel, by decide, rfl⟩
theorem pm_X1_39 : Cond.methodLink RX1 39 yX1_reset ∈ ab_tb := ab_at1 99 (by decide +kernel) (by decide +kernel)
theorem mf_X1_reset : ab_mfV yX1_reset cX1_reset 1 none 0 := ⟨ab_at1 100 (by decide +kernel) (by decide +kernel), ab_at1 101 (by decide +kernel) (by decide +kernel), ab_at1 3 (by decide +kernel) (by decide +kernel), ab_at1 102 (by decide +kernel) (by decide +kernel), by decide +kernel, by decide⟩
theorem pm_X10_52 : Cond.methodLink RX10 52 arraycopyName ∈ ab_tb := ab_at3 33 (by decide +kernel) (by decide +kernel)
theorem pr_n : Cond.native arraycopyName ∈ ab_tb := ab_at3 12 (by decide +kernel) (by decide +kernel)
theorem pr_s : Cond.static arraycopyName ∈ ab_tb := ab_at3 11 (by decide +kernel) (by decide +kernel)
theorem pr_i : Cond.initialized "java/lang/System" ∈ ab_tb := ab_at1 24 (by decide +kernel) (by decide +kernel)
theorem pm_X9_22 : Cond.methodLink RX9 22 Lib.Math.min.name ∈ ab_tb := ab_at4 26 (by decide +kernel) (by decide +kernel)
theorem pm_X9_28 : Cond.methodLink RX9 28 Lib.Math.max.name ∈ ab_tb := ab_at4 27 (by decide +kernel) (by decide +kernel)
theorem pm_X9_31 : Cond.methodLink RX9 31 arraycopyName ∈ ab_tb := ab_at4 28 (by decide +kernel) (by decide +kernel)
theorem pm_X1_54 : Cond.methodLink RX1 54 yX10_copyFrom ∈ ab_tb := ab_at4 21 (by decide +kernel) (by decide +kernel)
theorem mf_X10_copyFrom : ab_mfV yX10_copyFrom cX10_copyFrom 2 none 1 := ⟨ab_at3 30 (by decide +kernel) (by decide +kernel), ab_at3 31 (by decide +kernel) (by decide +kernel), ab_at1 4 (by decide +kernel) (by decide +kernel), ab_at3 32 (by decide +kernel) (by decide +kernel), by decide +kernel, by decide⟩
theorem pm_X1_58 : Cond.methodLink RX1 58 yX9_copyFrom ∈ ab_tb := ab_at4 22 (by decide +kernel) (by decide +kernel)
theorem mf_X9_copyFrom : ab_mfV yX9_copyFrom cX9_copyFrom 3 none 1 := ⟨ab_at4 23 (by decide +kernel) (by decide +kernel), ab_at4 24 (by decide +kernel) (by decide +kernel), ab_at1 6 (by decide +kernel) (by decide +kernel), ab_at4 25 (by decide +kernel) (by decide +kernel), by decide +kernel, by decide⟩
theorem pm_X1_65 : Cond.methodLink RX1 65 Lib.Math.min.name ∈ ab_tb := ab_at4 47 (by decide +kernel) (by decide +kernel)
theorem pm_X1_74 : Cond.methodLink RX1 74 yX1_isActive ∈ ab_tb := ab_at4 228 (by decide +kernel) (by decide +kernel)
theorem lk_X1_70 : ab_lkF RX1 70 10 3 false .int := ⟨RX10, TX10, 4, tyX10, rfl, by decide, fi_X10, tyX10_ok, nmX10, rfl, rfl, Or.inr ⟨"CloudMarket", ab_in1 (List.mem_of_getElem? (i := 70) (by decide +kernel))⟩⟩
theorem pm_X2_3 : Cond.methodLink RX2 3 Lib.objectInit ∈ ab_tb := ab_at2 115 (by decide +kernel) (by decide +kernel)
theorem pf_X2_9 : Cond.fieldLink RX2 9 (TX2 0).1 (TX2 0).2.1 (TX2 0).2.2.1 ∈ ab_tb := ab_at2 118 (by decide +kernel) (by decide +kernel)
theorem lk_X2_9 : ab_lkF RX2 9 2 0 true (.array .int) := ⟨RX2, TX2, 4, tyX2, rfl, by decide, fi_X2, tyX2_ok, nmX2, rfl, rfl, Or.inl pf_X2_9⟩
theorem pf_X2_15 : Cond.fieldLink RX2 15 (TX2 1).1 (TX2 1).2.1 (TX2 1).2.2.1 ∈ ab_tb := ab_at2 119 (by decide +kernel) (by decide +kernel)
theorem lk_X2_15 : ab_lkF RX2 15 2 1 true (.array .int) := ⟨RX2, TX2, 4, tyX2, rfl, by decide, fi_X2, tyX2_ok, nmX2, rfl, rfl, Or.inl pf_X2_15⟩
theorem pf_X2_18 : Cond.fieldLink RX2 18 (TX2 2).1 (TX2 2).2.1 (TX2 2).2.2.1 ∈ ab_tb := ab_at2 120 (by decide +kernel) (by decide +kernel)
theorem lk_X2_18 : ab_lkF RX2 18 2 2 false .int := ⟨RX2, TX2, 4, tyX2, rfl, by decide, fi_X2, tyX2_ok, nmX2, rfl, rfl, Or.inl pf_X2_18⟩
theorem nw_X2_22 : ab_lkN RX2 22 10 [none, none, some none, none] := ⟨RX10, TX10, 4, tyX10, rfl, fi_X10, tyX10_ok, ab_at2 116 (by decide +kernel) (by decide +kernel), ab_at1 49 (by decide +kernel) (by decide +kernel), ab_at1 4 (by decide +kernel) (by decide +kernel), rfl, by decide +kernel⟩
theorem pm_X2_24 : Cond.methodLink RX2 24 yX10_init ∈ ab_tb := ab_at2 117 (by decide +kernel) (by decide +kernel)
theorem pf_X2_27 : Cond.fieldLink RX2 27 (TX2 3).1 (TX2 3).2.1 (TX2 3).2.2.1 ∈ ab_tb := ab_at2 121 (by decide +kernel) (by decide +kernel)
theorem lk_X2_27 : ab_lkF RX2 27 2 3 true (.object "CloudMarket$Table") := ⟨RX2, TX2, 4, tyX2, rfl, by decide, fi_X2, tyX2_ok, nmX2, rfl, rfl, Or.inl pf_X2_27⟩
theorem lk_X8_93 : ab_lkF RX8 93 1 0 true (.object "CloudMarket$Table") := ⟨RX1, TX1, 6, tyX1, rfl, by decide, fi_X1, tyX1_ok, nmX1, rfl, rfl, Or.inr ⟨"CloudMarket", ab_in1 (List.mem_of_getElem? (i := 127) (by decide +kernel))⟩⟩
theorem pm_X8_79 : Cond.methodLink RX8 79 yX10_get ∈ ab_tb := ab_at2 228 (by decide +kernel) (by decide +kernel)
theorem pf_X8_33 : Cond.fieldLink RX8 33 (TX8 5).1 (TX8 5).2.1 (TX8 5).2.2.1 ∈ ab_tb := ab_at1 225 (by decide +kernel) (by decide +kernel)
theorem lk_X8_33 : ab_lkF RX8 33 8 5 true (.object "CloudMarket$Table") := ⟨RX8, TX8, 7, tyX8, rfl, by decide, fi_X8, tyX8_ok, nmX8, rfl, rfl, Or.inl pf_X8_33⟩
theorem lk_X2_44 : ab_lkF RX2 44 1 0 true (.object "CloudMarket$Table") := ⟨RX1, TX1, 6, tyX1, rfl, by decide, fi_X1, tyX1_ok, nmX1, rfl, rfl, Or.inr ⟨"CloudMarket", ab_in1 (List.mem_of_getElem? (i := 124) (by decide +kernel))⟩⟩
theorem lk_X2_49 : ab_lkF RX2 49 10 3 false .int := ⟨RX10, TX10, 4, tyX10, rfl, by decide, fi_X10, tyX10_ok, nmX10, rfl, rfl, Or.inr ⟨"CloudMarket", ab_in1 (List.mem_of_getElem? (i := 66) (by decide +kernel))⟩⟩
theorem pm_X2_40 : Cond.methodLink RX2 40 yX10_get ∈ ab_tb := ab_at5 102 (by decide +kernel) (by decide +kernel)
theorem pm_X2_70 : Cond.methodLink RX2 70 yX10_add ∈ ab_tb := ab_at5 108 (by decide +kernel) (by decide +kernel)
theorem pm_X2_60 : Cond.methodLink RX2 60 yX2_place ∈ ab_tb := ab_at5 105 (by decide +kernel) (by decide +kernel)
theorem mf_X2_place : ab_mfS yX2_place cX2_place 9 (some .boolean) 4 := ⟨ab_at5 106 (by decide +kernel) (by decide +kernel), ab_at1 14 (by decide +kernel) (by decide +kernel), ab_at5 107 (by decide +kernel) (by decide +kernel), by decide +kernel, by decide⟩
theorem lk_X2_37 : ab_lkF RX2 37 8 2 true (.object "CloudMarket$Table") := ⟨RX8, TX8, 7, tyX8, rfl, by decide, fi_X8, tyX8_ok, nmX8, rfl, rfl, Or.inr ⟨"CloudMarket", ab_in1 (List.mem_of_getElem? (i := 216) (by decide +kernel))⟩⟩
theorem lk_X2_67 : ab_lkF RX2 67 1 1 true (.object "CloudMarket$Table") := ⟨RX1, TX1, 6, tyX1, rfl, by decide, fi_X1, tyX1_ok, nmX1, rfl, rfl, Or.inr ⟨"CloudMarket", ab_in1 (List.mem_of_getElem? (i := 133) (by decide +kernel))⟩⟩
theorem pm_X2_56 : Cond.methodLink RX2 56 yX10_set ∈ ab_tb := ab_at5 104 (by decide +kernel) (by decide +kernel)
theorem pm_X2_52 : Cond.methodLink RX2 52 yX8_left ∈ ab_tb := ab_at5 103 (by decide +kernel) (by decide +kernel)
theorem mf_X8_left : ab_mfV yX8_left cX8_left 4 (some .int) 3 := ⟨ab_at4 82 (by decide +kernel) (by decide +kernel), ab_at4 83 (by decide +kernel) (by decide +kernel), ab_at1 8 (by decide +kernel) (by decide +kernel), ab_at4 84 (by decide +kernel) (by decide +kernel), by decide +kernel, by decide⟩
theorem pm_X2_31 : Cond.methodLink RX2 31 yX8_runs ∈ ab_tb := ab_at5 101 (by decide +kernel) (by decide +kernel)
theorem pm_X9_45 : Cond.methodLink RX9 45 yX10_get ∈ ab_tb := ab_at5 69 (by decide +kernel) (by decide +kernel)
theorem pm_X9_41 : Cond.methodLink RX9 41 yX9_operand ∈ ab_tb := ab_at5 66 (by decide +kernel) (by decide +kernel)
theorem mf_X9_operand : ab_mfS yX9_operand cX9_operand 4 (some .int) 4 := ⟨ab_at5 67 (by decide +kernel) (by decide +kernel), ab_at1 6 (by decide +kernel) (by decide +kernel), ab_at5 68 (by decide +kernel) (by decide +kernel), by decide +kernel, by decide⟩
theorem pm_X9_37 : Cond.methodLink RX9 37 yX9_apply ∈ ab_tb := ab_at5 63 (by decide +kernel) (by decide +kernel)
theorem mf_X9_apply : ab_mfS yX9_apply cX9_apply 3 (some .int) 3 := ⟨ab_at5 64 (by decide +kernel) (by decide +kernel), ab_at1 6 (by decide +kernel) (by decide +kernel), ab_at5 65 (by decide +kernel) (by decide +kernel), by decide +kernel, by decide⟩
theorem pf_X8_9 : Cond.fieldLink RX8 9 (TX8 0).1 (TX8 0).2.1 (TX8 0).2.2.1 ∈ ab_tb := ab_at1 210 (by decide +kernel) (by decide +kernel)
theorem lk_X8_9 : ab_lkF RX8 9 8 0 false .int := ⟨RX8, TX8, 7, tyX8, rfl, by decide, fi_X8, tyX8_ok, nmX8, rfl, rfl, Or.inl pf_X8_9⟩
theorem pf_X8_23 : Cond.fieldLink RX8 23 (TX8 2).1 (TX8 2).2.1 (TX8 2).2.2.1 ∈ ab_tb := ab_at1 215 (by decide +kernel) (by decide +kernel)
theorem lk_X8_23 : ab_lkF RX8 23 8 2 true (.object "CloudMarket$Table") := ⟨RX8, TX8, 7, tyX8, rfl, by decide, fi_X8, tyX8_ok, nmX8, rfl, rfl, Or.inl pf_X8_23⟩
theorem lk_X8_110 : ab_lkF RX8 110 1 5 true (.object "CloudMarket$Sum") := ⟨RX1, TX1, 6, tyX1, rfl, by decide, fi_X1, tyX1_ok, nmX1, rfl, rfl, Or.inr ⟨"CloudMarket", ab_in1 (List.mem_of_getElem? (i := 149) (by decide +kernel))⟩⟩
theorem lk_X8_96 : ab_lkF RX8 96 1 1 true (.object "CloudMarket$Table") := ⟨RX1, TX1, 6, tyX1, rfl, by decide, fi_X1, tyX1_ok, nmX1, rfl, rfl, Or.inr ⟨"CloudMarket", ab_in1 (List.mem_of_getElem? (i := 135) (by decide +kernel))⟩⟩
theorem pm_X8_114 : Cond.methodLink RX8 114 yX9_value ∈ ab_tb := ab_at5 59 (by decide +kernel) (by decide +kernel)
theorem mf_X9_value : ab_mfV yX9_value cX9_value 7 (some .int) 3 := ⟨ab_at5 60 (by decide +kernel) (by decide +kernel), ab_at5 61 (by decide +kernel) (by decide +kernel), ab_at1 6 (by decide +kernel) (by decide +kernel), ab_at5 62 (by decide +kernel) (by decide +kernel), by decide +kernel, by decide⟩
theorem pm_X8_120 : Cond.methodLink RX8 120 Lib.Math.max.name ∈ ab_tb := ab_at5 70 (by decide +kernel) (by decide +kernel)
theorem pm_X8_185 : Cond.methodLink RX8 185 yX10_add ∈ ab_tb := ab_at5 138 (by decide +kernel) (by decide +kernel)
theorem pm_X8_134 : Cond.methodLink RX8 134 yX8_moveCost ∈ ab_tb := ab_at6 32 (by decide +kernel) (by decide +kernel)
theorem mf_X8_moveCost : ab_mfV yX8_moveCost cX8_moveCost 4 (some .int) 2 := ⟨ab_at5 56 (by decide +kernel) (by decide +kernel), ab_at5 57 (by decide +kernel) (by decide +kernel), ab_at1 8 (by decide +kernel) (by decide +kernel), ab_at5 58 (by decide +kernel) (by decide +kernel), by decide +kernel, by decide⟩
theorem pm_X8_130 : Cond.methodLink RX8 130 yX8_load ∈ ab_tb := ab_at5 134 (by decide +kernel) (by decide +kernel)
theorem mf_X8_load : ab_mfV yX8_load cX8_load 6 none 3 := ⟨ab_at5 136 (by decide +kernel) (by decide +kernel), ab_at0 27 (by decide +kernel) (by decide +kernel), ab_at1 8 (by decide +kernel) (by decide +kernel), ab_at5 137 (by decide +kernel) (by decide +kernel), by decide +kernel, by decide⟩
theorem pm_X8_127 : Cond.methodLink RX8 127 yX10_set ∈ ab_tb := ab_at4 48 (by decide +kernel) (by decide +kernel)
theorem pm_X8_138 : Cond.methodLink RX8 138 yX8_charge ∈ ab_tb := ab_at6 33 (by decide +kernel) (by decide +kernel)
theorem pm_X2_64 : Cond.methodLink RX2 64 yX8_moveTo ∈ ab_tb := ab_at6 47 (by decide +kernel) (by decide +kernel)
theorem mf_X8_moveTo : ab_mfV yX8_moveTo cX8_moveTo 5 (some .int) 3 := ⟨ab_at6 29 (by decide +kernel) (by decide +kernel), ab_at6 30 (by decide +kernel) (by decide +kernel), ab_at1 8 (by decide +kernel) (by decide +kernel), ab_at6 31 (by decide +kernel) (by decide +kernel), by decide +kernel, by decide⟩
theorem pm_X3_3 : Cond.methodLink RX3 3 Lib.objectInit ∈ ab_tb := ab_at2 97 (by decide +kernel) (by decide +kernel)
theorem nw_X3_9 : ab_lkN RX3 9 10 [none, none, some none, none] := ⟨RX10, TX10, 4, tyX10, rfl, fi_X10, tyX10_ok, ab_at2 98 (by decide +kernel) (by decide +kernel), ab_at1 49 (by decide +kernel) (by decide +kernel), ab_at1 4 (by decide +kernel) (by decide +kernel), rfl, by decide +kernel⟩
theorem pm_X3_11 : Cond.methodLink RX3 11 yX10_init ∈ ab_tb := ab_at2 99 (by decide +kernel) (by decide +kernel)
theorem pf_X3_14 : Cond.fieldLink RX3 14 (TX3 0).1 (TX3 0).2.1 (TX3 0).2.2.1 ∈ ab_tb := ab_at2 100 (by decide +kernel) (by decide +kernel)
theorem lk_X3_14 : ab_lkF RX3 14 3 0 true (.object "CloudMarket$Table") := ⟨RX3, TX3, 3, tyX3, rfl, by decide, fi_X3, tyX3_ok, nmX3, rfl, rfl, Or.inl pf_X3_14⟩
theorem pf_X3_20 : Cond.fieldLink RX3 20 (TX3 1).1 (TX3 1).2.1 (TX3 1).2.2.1 ∈ ab_tb := ab_at2 101 (by decide +kernel) (by decide +kernel)
theorem lk_X3_20 : ab_lkF RX3 20 3 1 false .int := ⟨RX3, TX3, 3, tyX3, rfl, by decide, fi_X3, tyX3_ok, nmX3, rfl, rfl, Or.inl pf_X3_20⟩
theorem pf_X3_24 : Cond.fieldLink RX3 24 (TX3 2).1 (TX3 2).2.1 (TX3 2).2.2.1 ∈ ab_tb := ab_at2 102 (by decide +kernel) (by decide +kernel)
theorem lk_X3_24 : ab_lkF RX3 24 3 2 false .int := ⟨RX3, TX3, 3, tyX3, rfl, by decide, fi_X3, tyX3_ok, nmX3, rfl, rfl, Or.inl pf_X3_24⟩
theorem pm_X10_39 : Cond.methodLink RX10 39 yX10_shift ∈ ab_tb := ab_at3 215 (by decide +kernel) (by decide +kernel)
theorem mf_X10_shift : ab_mfV yX10_shift cX10_shift 5 none 3 := ⟨ab_at3 217 (by decide +kernel) (by decide +kernel), ab_at0 13 (by decide +kernel) (by decide +kernel), ab_at1 4 (by decide +kernel) (by decide +kernel), ab_at3 218 (by decide +kernel) (by decide +kernel), by decide +kernel, by decide⟩
theorem lk_X3_37 : ab_lkF RX3 37 8 2 true (.object "CloudMarket$Table") := ⟨RX8, TX8, 7, tyX8, rfl, by decide, fi_X8, tyX8_ok, nmX8, rfl, rfl, Or.inr ⟨"CloudMarket", ab_in1 (List.mem_of_getElem? (i := 217) (by decide +kernel))⟩⟩
theorem pm_X3_40 : Cond.methodLink RX3 40 yX10_get ∈ ab_tb := ab_at5 26 (by decide +kernel) (by decide +kernel)
theorem lk_X3_61 : ab_lkF RX3 61 10 3 false .int := ⟨RX10, TX10, 4, tyX10, rfl, by decide, fi_X10, tyX10_ok, nmX10, rfl, rfl, Or.inr ⟨"CloudMarket", ab_in1 (List.mem_of_getElem? (i := 67) (by decide +kernel))⟩⟩
theorem pm_X3_64 : Cond.methodLink RX3 64 yX10_insertRow ∈ ab_tb := ab_at5 31 (by decide +kernel) (by decide +kernel)
theorem mf_X10_insertRow : ab_mfV yX10_insertRow cX10_insertRow 2 none 1 := ⟨ab_at3 212 (by decide +kernel) (by decide +kernel), ab_at3 213 (by decide +kernel) (by decide +kernel), ab_at1 4 (by decide +kernel) (by decide +kernel), ab_at3 214 (by decide +kernel) (by decide +kernel), by decide +kernel, by decide⟩
theorem lk_X3_48 : ab_lkF RX3 48 1 1 true (.object "CloudMarket$Table") := ⟨RX1, TX1, 6, tyX1, rfl, by decide, fi_X1, tyX1_ok, nmX1, rfl, rfl, Or.inr ⟨"CloudMarket", ab_in1 (List.mem_of_getElem? (i := 129) (by decide +kernel))⟩⟩
theorem pm_X3_68 : Cond.methodLink RX3 68 yX10_set ∈ ab_tb := ab_at5 32 (by decide +kernel) (by decide +kernel)
theorem pk_J6_265 : Cond.constant RJ6 265 1431655765 ∈ ab_tb := ab_at5 44 (by decide +kernel) (by decide +kernel)
theorem pk_J6_266 : Cond.constant RJ6 266 858993459 ∈ ab_tb := ab_at5 45 (by decide +kernel) (by decide +kernel)
theorem pk_J6_267 : Cond.constant RJ6 267 252645135 ∈ ab_tb := ab_at5 46 (by decide +kernel) (by decide +kernel)
theorem pm_X3_78 : Cond.methodLink RX3 78 yJ6_bitCount_0f7a4 ∈ ab_tb := ab_at5 41 (by decide +kernel) (by decide +kernel)
theorem mf_J6_bitCount_0f7a4 : ab_mfS yJ6_bitCount_0f7a4 cJ6_bitCount_0f7a4 1 (some .int) 1 := ⟨ab_at5 42 (by decide +kernel) (by decide +kernel), ab_at1 26 (by decide +kernel) (by decide +kernel), ab_at5 43 (by decide +kernel) (by decide +kernel), by decide +kernel, by decide⟩
theorem pm_X3_75 : Cond.methodLink RX3 75 yX10_has ∈ ab_tb := ab_at5 47 (by decide +kernel) (by decide +kernel)
theorem mf_X10_has : ab_mfV yX10_has cX10_has 2 (some .boolean) 1 := ⟨ab_at2 204 (by decide +kernel) (by decide +kernel), ab_at2 205 (by decide +kernel) (by decide +kernel), ab_at1 4 (by decide +kernel) (by decide +kernel), ab_at2 206 (by decide +kernel) (by decide +kernel), by decide +kernel, by decide⟩
theorem pm_X3_57 : Cond.methodLink RX3 57 yX3_choose ∈ ab_tb := ab_at5 34 (by decide +kernel) (by decide +kernel)
theorem mf_X3_choose : ab_mfS yX3_choose cX3_choose 7 none 6 := ⟨ab_at5 35 (by decide +kernel) (by decide +kernel), ab_at1 13 (by decide +kernel) (by decide +kernel), ab_at5 36 (by decide +kernel) (by decide +kernel), by decide +kernel, by decide⟩
theorem pm_X3_72 : Cond.methodLink RX3 72 yX3_keep ∈ ab_tb := ab_at5 37 (by decide +kernel) (by decide +kernel)
theorem mf_X3_keep : ab_mfV yX3_keep cX3_keep 4 none 2 := ⟨ab_at5 39 (by decide +kernel) (by decide +kernel), ab_at0 25 (by decide +kernel) (by decide +kernel), ab_at1 13 (by decide +kernel) (by decide +kernel), ab_at5 40 (by decide +kernel) (by decide +kernel), by decide +kernel, by decide⟩
theorem pm_X3_44 : Cond.methodLink RX3 44 yX3_addSpot ∈ ab_tb := ab_at5 27 (by decide +kernel) (by decide +kernel)
theorem mf_X3_addSpot : ab_mfV yX3_addSpot cX3_addSpot 6 none 3 := ⟨ab_at5 29 (by decide +kernel) (by decide +kernel), ab_at0 24 (by decide +kernel) (by decide +kernel), ab_at1 13 (by decide +kernel) (by decide +kernel), ab_at5 30 (by decide +kernel) (by decide +kernel), by decide +kernel, by decide⟩
theorem pm_X3_53 : Cond.methodLink RX3 53 yX8_left ∈ ab_tb := ab_at5 33 (by decide +kernel) (by decide +kernel)
theorem pm_X3_31 : Cond.methodLink RX3 31 yX8_runs ∈ ab_tb := ab_at5 25 (by decide +kernel) (by decide +kernel)
theorem pm_X3_27 : Cond.methodLink RX3 27 yX10_clear ∈ ab_tb := ab_at5 23 (by decide +kernel) (by decide +kernel)
theorem pk_X3_30 : Cond.constant RX3 30 119989 ∈ ab_tb := ab_at5 24 (by decide +kernel) (by decide +kernel)
theorem pm_X8_3 : Cond.methodLink RX8 3 Lib.objectInit ∈ ab_tb := ab_at1 207 (by decide +kernel) (by decide +kernel)
theorem nw_X8_18 : ab_lkN RX8 18 10 [none, none, some none, none] := ⟨RX10, TX10, 4, tyX10, rfl, fi_X10, tyX10_ok, ab_at1 208 (by decide +kernel) (by decide +kernel), ab_at1 49 (by decide +kernel) (by decide +kernel), ab_at1 4 (by decide +kernel) (by decide +kernel), rfl, by decide +kernel⟩
theorem pm_X8_20 : Cond.methodLink RX8 20 yX10_init ∈ ab_tb := ab_at1 209 (by decide +kernel) (by decide +kernel)
theorem pf_X8_27 : Cond.fieldLink RX8 27 (TX8 3).1 (TX8 3).2.1 (TX8 3).2.2.1 ∈ ab_tb := ab_at1 220 (by decide +kernel) (by decide +kernel)
theorem lk_X8_27 : ab_lkF RX8 27 8 3 true (.object "CloudMarket$Table") := ⟨RX8, TX8, 7, tyX8, rfl, by decide, fi_X8, tyX8_ok, nmX8, rfl, rfl, Or.inl pf_X8_27⟩
theorem pf_X8_30 : Cond.fieldLink RX8 30 (TX8 4).1 (TX8 4).2.1 (TX8 4).2.2.1 ∈ ab_tb := ab_at1 222 (by decide +kernel) (by decide +kernel)
theorem lk_X8_30 : ab_lkF RX8 30 8 4 true (.object "CloudMarket$Table") := ⟨RX8, TX8, 7, tyX8, rfl, by decide, fi_X8, tyX8_ok, nmX8, rfl, rfl, Or.inl pf_X8_30⟩
theorem pf_X4_17 : Cond.fieldLink RX4 17 (TX4 1).1 (TX4 1).2.1 (TX4 1).2.2.1 ∈ ab_tb := ab_at2 14 (by decide +kernel) (by decide +kernel)
theorem lk_X4_17 : ab_lkF RX4 17 4 1 true (.array (.object "CloudMarket$Situation")) := ⟨RX4, TX4, 5, tyX4, rfl, by decide, fi_X4, tyX4_ok, nmX4, rfl, rfl, Or.inl pf_X4_17⟩
theorem nw_X4_9 : ab_lkN RX4 9 8 [none, none, some none, some none, some none, some none, some none] := ⟨RX8, TX8, 7, tyX8, rfl, fi_X8, tyX8_ok, ab_at2 10 (by decide +kernel) (by decide +kernel), ab_at1 203 (by decide +kernel) (by decide +kernel), ab_at1 8 (by decide +kernel) (by decide +kernel), rfl, by decide +kernel⟩
theorem pn_X4_30 : ∃ host, Cond.methodLinkNest RX4 30 yX8_init host ∈ lw_tbl := ⟨"CloudMarket", ab_in2 (List.mem_of_getElem? (i := 12) (by decide +kernel))⟩
theorem mf_X8_init : ab_mfI yX8_init cX8_init 1 0 := ⟨ab_at1 205 (by decide +kernel) (by decide +kernel), ab_at1 8 (by decide +kernel) (by decide +kernel), ab_at1 206 (by decide +kernel) (by decide +kernel), by decide +kernel, by decide, rfl⟩
theorem pf_X4_11 : Cond.fieldLink RX4 11 (TX4 0).1 (TX4 0).2.1 (TX4 0).2.2.1 ∈ ab_tb := ab_at2 13 (by decide +kernel) (by decide +kernel)
theorem lk_X4_11 : ab_lkF RX4 11 4 0 true (.array (.object "CloudMarket$Situation")) := ⟨RX4, TX4, 5, tyX4, rfl, by decide, fi_X4, tyX4_ok, nmX4, rfl, rfl, Or.inl pf_X4_11⟩
theorem pm_X4_3 : Cond.methodLink RX4 3 Lib.objectInit ∈ ab_tb := ab_at2 9 (by decide +kernel) (by decide +kernel)
theorem pc_X4_9 : Cond.classLink RX4 9 "CloudMarket$Situation" ∈ ab_tb := ab_at2 10 (by decide +kernel) (by decide +kernel)
theorem pf_X4_20 : Cond.fieldLink RX4 20 (TX4 2).1 (TX4 2).2.1 (TX4 2).2.2.1 ∈ ab_tb := ab_at2 15 (by decide +kernel) (by decide +kernel)
theorem lk_X4_20 : ab_lkF RX4 20 4 2 false .int := ⟨RX4, TX4, 5, tyX4, rfl, by decide, fi_X4, tyX4_ok, nmX4, rfl, rfl, Or.inl pf_X4_20⟩
theorem pf_X4_24 : Cond.fieldLink RX4 24 (TX4 3).1 (TX4 3).2.1 (TX4 3).2.2.1 ∈ ab_tb := ab_at2 17 (by decide +kernel) (by decide +kernel)
theorem lk_X4_24 : ab_lkF RX4 24 4 3 false .int := ⟨RX4, TX4, 5, tyX4, rfl, by decide, fi_X4, tyX4_ok, nmX4, rfl, rfl, Or.inl pf_X4_24⟩
theorem pf_X4_27 : Cond.fieldLink RX4 27 (TX4 4).1 (TX4 4).2.1 (TX4 4).2.2.1 ∈ ab_tb := ab_at2 18 (by decide +kernel) (by decide +kernel)
theorem lk_X4_27 : ab_lkF RX4 27 4 4 false .int := ⟨RX4, TX4, 5, tyX4, rfl, by decide, fi_X4, tyX4_ok, nmX4, rfl, rfl, Or.inl pf_X4_27⟩
theorem pm_X8_53 : Cond.methodLink RX8 53 yX10_copyFrom ∈ ab_tb := ab_at3 29 (by decide +kernel) (by decide +kernel)
theorem pm_X8_57 : Cond.methodLink RX8 57 Lib.Math.min.name ∈ ab_tb := ab_at3 34 (by decide +kernel) (by decide +kernel)
theorem pm_X8_63 : Cond.methodLink RX8 63 arraycopyName ∈ ab_tb := ab_at3 35 (by decide +kernel) (by decide +kernel)
theorem pm_X4_35 : Cond.methodLink RX4 35 Lib.Math.min.name ∈ ab_tb := ab_at5 189 (by decide +kernel) (by decide +kernel)
theorem pm_X4_31 : Cond.methodLink RX4 31 yX8_copyFrom ∈ ab_tb := ab_at3 25 (by decide +kernel) (by decide +kernel)
theorem mf_X8_copyFrom : ab_mfV yX8_copyFrom cX8_copyFrom 2 none 1 := ⟨ab_at3 26 (by decide +kernel) (by decide +kernel), ab_at3 27 (by decide +kernel) (by decide +kernel), ab_at1 8 (by decide +kernel) (by decide +kernel), ab_at3 28 (by decide +kernel) (by decide +kernel), by decide +kernel, by decide⟩
theorem pm_X4_41 : Cond.methodLink RX4 41 yX4_isSaved ∈ ab_tb := ab_at6 80 (by decide +kernel) (by decide +kernel)
theorem mf_X4_isSaved : ab_mfV yX4_isSaved cX4_isSaved 2 (some .boolean) 1 := ⟨ab_at6 61 (by decide +kernel) (by decide +kernel), ab_at6 62 (by decide +kernel) (by decide +kernel), ab_at1 9 (by decide +kernel) (by decide +kernel), ab_at6 63 (by decide +kernel) (by decide +kernel), by decide +kernel, by decide⟩
theorem pm_X5_3 : Cond.methodLink RX5 3 Lib.objectInit ∈ ab_tb := ab_at2 59 (by decide +kernel) (by decide +kernel)
theorem pf_X5_9 : Cond.fieldLink RX5 9 (TX5 0).1 (TX5 0).2.1 (TX5 0).2.2.1 ∈ ab_tb := ab_at2 60 (by decide +kernel) (by decide +kernel)
theorem lk_X5_9 : ab_lkF RX5 9 5 0 true (.array .int) := ⟨RX5, TX5, 3, tyX5, rfl, by decide, fi_X5, tyX5_ok, nmX5, rfl, rfl, Or.inl pf_X5_9⟩
theorem pf_X5_15 : Cond.fieldLink RX5 15 (TX5 1).1 (TX5 1).2.1 (TX5 1).2.2.1 ∈ ab_tb := ab_at2 62 (by decide +kernel) (by decide +kernel)
theorem lk_X5_15 : ab_lkF RX5 15 5 1 true (.array .int) := ⟨RX5, TX5, 3, tyX5, rfl, by decide, fi_X5, tyX5_ok, nmX5, rfl, rfl, Or.inl pf_X5_15⟩
theorem pf_X5_18 : Cond.fieldLink RX5 18 (TX5 2).1 (TX5 2).2.1 (TX5 2).2.2.1 ∈ ab_tb := ab_at2 64 (by decide +kernel) (by decide +kernel)
theorem lk_X5_18 : ab_lkF RX5 18 5 2 false .int := ⟨RX5, TX5, 3, tyX5, rfl, by decide, fi_X5, tyX5_ok, nmX5, rfl, rfl, Or.inl pf_X5_18⟩
theorem pm_X5_22 : Cond.methodLink RX5 22 yJ7_fill_53178 ∈ ab_tb := ab_at2 237 (by decide +kernel) (by decide +kernel)
theorem pm_X6_3 : Cond.methodLink RX6 3 Lib.objectInit ∈ ab_tb := ab_at2 51 (by decide +kernel) (by decide +kernel)
theorem pf_X6_11 : Cond.fieldLink RX6 11 (TX6 0).1 (TX6 0).2.1 (TX6 0).2.2.1 ∈ ab_tb := ab_at2 73 (by decide +kernel) (by decide +kernel)
theorem lk_X6_11 : ab_lkF RX6 11 6 0 true (.array .int) := ⟨RX6, TX6, 6, tyX6, rfl, by decide, fi_X6, tyX6_ok, nmX6, rfl, rfl, Or.inl pf_X6_11⟩
theorem pf_X6_15 : Cond.fieldLink RX6 15 (TX6 1).1 (TX6 1).2.1 (TX6 1).2.2.1 ∈ ab_tb := ab_at2 74 (by decide +kernel) (by decide +kernel)
theorem lk_X6_15 : ab_lkF RX6 15 6 1 true (.array .int) := ⟨RX6, TX6, 6, tyX6, rfl, by decide, fi_X6, tyX6_ok, nmX6, rfl, rfl, Or.inl pf_X6_15⟩
theorem nw_X6_18 : ab_lkN RX6 18 10 [none, none, some none, none] := ⟨RX10, TX10, 4, tyX10, rfl, fi_X10, tyX10_ok, ab_at2 52 (by decide +kernel) (by decide +kernel), ab_at1 49 (by decide +kernel) (by decide +kernel), ab_at1 4 (by decide +kernel) (by decide +kernel), rfl, by decide +kernel⟩
theorem pm_X6_20 : Cond.methodLink RX6 20 yX10_init ∈ ab_tb := ab_at2 53 (by decide +kernel) (by decide +kernel)
theorem pf_X6_23 : Cond.fieldLink RX6 23 (TX6 2).1 (TX6 2).2.1 (TX6 2).2.2.1 ∈ ab_tb := ab_at2 75 (by decide +kernel) (by decide +kernel)
theorem lk_X6_23 : ab_lkF RX6 23 6 2 true (.object "CloudMarket$Table") := ⟨RX6, TX6, 6, tyX6, rfl, by decide, fi_X6, tyX6_ok, nmX6, rfl, rfl, Or.inl pf_X6_23⟩
theorem pf_X6_27 : Cond.fieldLink RX6 27 (TX6 3).1 (TX6 3).2.1 (TX6 3).2.2.1 ∈ ab_tb := ab_at2 76 (by decide +kernel) (by decide +kernel)
theorem lk_X6_27 : ab_lkF RX6 27 6 3 true (.array .int) := ⟨RX6, TX6, 6, tyX6, rfl, by decide, fi_X6, tyX6_ok, nmX6, rfl, rfl, Or.inl pf_X6_27⟩
theorem nw_X6_30 : ab_lkN RX6 30 5 [some none, some none, none] := ⟨RX5, TX5, 3, tyX5, rfl, fi_X5, tyX5_ok, ab_at2 54 (by decide +kernel) (by decide +kernel), ab_at2 55 (by decide +kernel) (by decide +kernel), ab_at1 12 (by decide +kernel) (by decide +kernel), rfl, by decide +kernel⟩
theorem pn_X6_32 : ∃ host, Cond.methodLinkNest RX6 32 yX5_init host ∈ lw_tbl := ⟨"CloudMarket", ab_in2 (List.mem_of_getElem? (i := 56) (by decide +kernel))⟩
theorem mf_X5_init : ab_mfI yX5_init cX5_init 1 0 := ⟨ab_at2 57 (by decide +kernel) (by decide +kernel), ab_at1 12 (by decide +kernel) (by decide +kernel), ab_at2 58 (by decide +kernel) (by decide +kernel), by decide +kernel, by decide, rfl⟩
theorem pf_X6_33 : Cond.fieldLink RX6 33 (TX6 4).1 (TX6 4).2.1 (TX6 4).2.2.1 ∈ ab_tb := ab_at2 77 (by decide +kernel) (by decide +kernel)
theorem lk_X6_33 : ab_lkF RX6 33 6 4 true (.object "CloudMarket$Odometer") := ⟨RX6, TX6, 6, tyX6, rfl, by decide, fi_X6, tyX6_ok, nmX6, rfl, rfl, Or.inl pf_X6_33⟩
theorem pf_X6_37 : Cond.fieldLink RX6 37 (TX6 5).1 (TX6 5).2.1 (TX6 5).2.2.1 ∈ ab_tb := ab_at2 78 (by decide +kernel) (by decide +kernel)
theorem lk_X6_37 : ab_lkF RX6 37 6 5 true (.object "CloudMarket$Odometer") := ⟨RX6, TX6, 6, tyX6, rfl, by decide, fi_X6, tyX6_ok, nmX6, rfl, rfl, Or.inl pf_X6_37⟩
theorem pm_X8_75 : Cond.methodLink RX8 75 yX8_runs ∈ ab_tb := ab_at2 224 (by decide +kernel) (by decide +kernel)
theorem lk_X6_92 : ab_lkF RX6 92 5 1 true (.array .int) := ⟨RX5, TX5, 3, tyX5, rfl, by decide, fi_X5, tyX5_ok, nmX5, rfl, rfl, Or.inr ⟨"CloudMarket", ab_in2 (List.mem_of_getElem? (i := 63) (by decide +kernel))⟩⟩
theorem pm_X6_95 : Cond.methodLink RX6 95 yX8_manyOf ∈ ab_tb := ab_at2 220 (by decide +kernel) (by decide +kernel)
theorem mf_X8_manyOf : ab_mfV yX8_manyOf cX8_manyOf 4 (some .int) 1 := ⟨ab_at2 221 (by decide +kernel) (by decide +kernel), ab_at2 222 (by decide +kernel) (by decide +kernel), ab_at1 8 (by decide +kernel) (by decide +kernel), ab_at2 223 (by decide +kernel) (by decide +kernel), by decide +kernel, by decide⟩
theorem lk_X6_99 : ab_lkF RX6 99 5 0 true (.array .int) := ⟨RX5, TX5, 3, tyX5, rfl, by decide, fi_X5, tyX5_ok, nmX5, rfl, rfl, Or.inr ⟨"CloudMarket", ab_in2 (List.mem_of_getElem? (i := 61) (by decide +kernel))⟩⟩
theorem lk_X6_108 : ab_lkF RX6 108 5 2 false .int := ⟨RX5, TX5, 3, tyX5, rfl, by decide, fi_X5, tyX5_ok, nmX5, rfl, rfl, Or.inr ⟨"CloudMarket", ab_in2 (List.mem_of_getElem? (i := 65) (by decide +kernel))⟩⟩
theorem pm_X6_111 : Cond.methodLink RX6 111 yX10_set ∈ ab_tb := ab_at2 239 (by decide +kernel) (by decide +kernel)
theorem pm_X6_88 : Cond.methodLink RX6 88 yX5_step ∈ ab_tb := ab_at3 0 (by decide +kernel) (by decide +kernel)
theorem mf_X5_step : ab_mfV yX5_step cX5_step 3 (some .boolean) 1 := ⟨ab_at3 1 (by decide +kernel) (by decide +kernel), ab_at3 2 (by decide +kernel) (by decide +kernel), ab_at1 12 (by decide +kernel) (by decide +kernel), ab_at3 3 (by decide +kernel) (by decide +kernel), by decide +kernel, by decide⟩
theorem lk_X6_102 : ab_lkF RX6 102 1 1 true (.object "CloudMarket$Table") := ⟨RX1, TX1, 6, tyX1, rfl, by decide, fi_X1, tyX1_ok, nmX1, rfl, rfl, Or.inr ⟨"CloudMarket", ab_in1 (List.mem_of_getElem? (i := 130) (by decide +kernel))⟩⟩
theorem pm_X6_105 : Cond.methodLink RX6 105 yX10_get ∈ ab_tb := ab_at2 238 (by decide +kernel) (by decide +kernel)
theorem pm_X6_81 : Cond.methodLink RX6 81 yX5_restart ∈ ab_tb := ab_at2 233 (by decide +kernel) (by decide +kernel)
theorem mf_X5_restart : ab_mfV yX5_restart cX5_restart 1 none 0 := ⟨ab_at2 234 (by decide +kernel) (by decide +kernel), ab_at2 235 (by decide +kernel) (by decide +kernel), ab_at1 12 (by decide +kernel) (by decide +kernel), ab_at2 236 (by decide +kernel) (by decide +kernel), by decide +kernel, by decide⟩
theorem pm_X6_69 : Cond.methodLink RX6 69 Lib.Math.min.name ∈ ab_tb := ab_at3 9 (by decide +kernel) (by decide +kernel)
theorem lk_X6_60 : ab_lkF RX6 60 1 0 true (.object "CloudMarket$Table") := ⟨RX1, TX1, 6, tyX1, rfl, by decide, fi_X1, tyX1_ok, nmX1, rfl, rfl, Or.inr ⟨"CloudMarket", ab_in1 (List.mem_of_getElem? (i := 123) (by decide +kernel))⟩⟩
theorem pm_X6_84 : Cond.methodLink RX6 84 yX6_addHost ∈ ab_tb := ab_at3 13 (by decide +kernel) (by decide +kernel)
theorem mf_X6_addHost : ab_mfV yX6_addHost cX6_addHost 11 none 3 := ⟨ab_at3 15 (by decide +kernel) (by decide +kernel), ab_at0 2 (by decide +kernel) (by decide +kernel), ab_at1 11 (by decide +kernel) (by decide +kernel), ab_at3 16 (by decide +kernel) (by decide +kernel), by decide +kernel, by decide⟩
theorem lk_X6_65 : ab_lkF RX6 65 10 3 false .int := ⟨RX10, TX10, 4, tyX10, rfl, by decide, fi_X10, tyX10_ok, nmX10, rfl, rfl, Or.inr ⟨"CloudMarket", ab_in1 (List.mem_of_getElem? (i := 65) (by decide +kernel))⟩⟩
theorem pm_X6_75 : Cond.methodLink RX6 75 arraycopyName ∈ ab_tb := ab_at3 10 (by decide +kernel) (by decide +kernel)
theorem pm_X6_40 : Cond.methodLink RX6 40 yX6_countTypes ∈ ab_tb := ab_at2 216 (by decide +kernel) (by decide +kernel)
theorem mf_X6_countTypes : ab_mfV yX6_countTypes cX6_countTypes 6 (some .int) 1 := ⟨ab_at2 218 (by decide +kernel) (by decide +kernel), ab_at0 0 (by decide +kernel) (by decide +kernel), ab_at1 11 (by decide +kernel) (by decide +kernel), ab_at2 219 (by decide +kernel) (by decide +kernel), by decide +kernel, by decide⟩
theorem pm_X6_44 : Cond.methodLink RX6 44 yX6_addNeeds ∈ ab_tb := ab_at2 229 (by decide +kernel) (by decide +kernel)
theorem mf_X6_addNeeds : ab_mfV yX6_addNeeds cX6_addNeeds 7 none 1 := ⟨ab_at2 231 (by decide +kernel) (by decide +kernel), ab_at0 1 (by decide +kernel) (by decide +kernel), ab_at1 11 (by decide +kernel) (by decide +kernel), ab_at2 232 (by decide +kernel) (by decide +kernel), by decide +kernel, by decide⟩
theorem pm_X6_48 : Cond.methodLink RX6 48 yJ7_fill_53178 ∈ ab_tb := ab_at3 4 (by decide +kernel) (by decide +kernel)
theorem pm_X6_54 : Cond.methodLink RX6 54 yX8_hostsInUse ∈ ab_tb := ab_at3 5 (by decide +kernel) (by decide +kernel)
theorem mf_X8_hostsInUse : ab_mfV yX8_hostsInUse cX8_hostsInUse 3 (some .int) 0 := ⟨ab_at3 6 (by decide +kernel) (by decide +kernel), ab_at3 7 (by decide +kernel) (by decide +kernel), ab_at1 8 (by decide +kernel) (by decide +kernel), ab_at3 8 (by decide +kernel) (by decide +kernel), by decide +kernel, by decide⟩
theorem pm_X7_3 : Cond.methodLink RX7 3 Lib.objectInit ∈ ab_tb := ab_at1 41 (by decide +kernel) (by decide +kernel)
theorem pf_X7_9 : Cond.fieldLink RX7 9 (TX7 0).1 (TX7 0).2.1 (TX7 0).2.2.1 ∈ ab_tb := ab_at1 163 (by decide +kernel) (by decide +kernel)
theorem lk_X7_9 : ab_lkF RX7 9 7 0 true (.array .byte) := ⟨RX7, TX7, 11, tyX7, rfl, by decide, fi_X7, tyX7_ok, nmX7, rfl, rfl, Or.inl pf_X7_9⟩
theorem pf_X7_15 : Cond.fieldLink RX7 15 (TX7 1).1 (TX7 1).2.1 (TX7 1).2.2.1 ∈ ab_tb := ab_at1 164 (by decide +kernel) (by decide +kernel)
theorem lk_X7_15 : ab_lkF RX7 15 7 1 false .int := ⟨RX7, TX7, 11, tyX7, rfl, by decide, fi_X7, tyX7_ok, nmX7, rfl, rfl, Or.inl pf_X7_15⟩
theorem pf_X7_19 : Cond.fieldLink RX7 19 (TX7 2).1 (TX7 2).2.1 (TX7 2).2.2.1 ∈ ab_tb := ab_at1 166 (by decide +kernel) (by decide +kernel)
theorem lk_X7_19 : ab_lkF RX7 19 7 2 true (.array .byte) := ⟨RX7, TX7, 11, tyX7, rfl, by decide, fi_X7, tyX7_ok, nmX7, rfl, rfl, Or.inl pf_X7_19⟩
theorem nw_X7_22 : ab_lkN RX7 22 1 [some none, some none, some none, some none, some none, some none] := ⟨RX1, TX1, 6, tyX1, rfl, fi_X1, tyX1_ok, ab_at1 42 (by decide +kernel) (by decide +kernel), ab_at1 43 (by decide +kernel) (by decide +kernel), ab_at1 3 (by decide +kernel) (by decide +kernel), rfl, by decide +kernel⟩
theorem pm_X7_24 : Cond.methodLink RX7 24 yX1_init ∈ ab_tb := ab_at1 44 (by decide +kernel) (by decide +kernel)
theorem mf_X1_init : ab_mfI yX1_init cX1_init 1 0 := ⟨ab_at1 45 (by decide +kernel) (by decide +kernel), ab_at1 3 (by decide +kernel) (by decide +kernel), ab_at1 46 (by decide +kernel) (by decide +kernel), by decide +kernel, by decide, rfl⟩
theorem pf_X7_25 : Cond.fieldLink RX7 25 (TX7 3).1 (TX7 3).2.1 (TX7 3).2.2.1 ∈ ab_tb := ab_at1 167 (by decide +kernel) (by decide +kernel)
theorem lk_X7_25 : ab_lkF RX7 25 7 3 true (.object "CloudMarket$Cloud") := ⟨RX7, TX7, 11, tyX7, rfl, by decide, fi_X7, tyX7_ok, nmX7, rfl, rfl, Or.inl pf_X7_25⟩
theorem pf_X7_29 : Cond.fieldLink RX7 29 (TX7 4).1 (TX7 4).2.1 (TX7 4).2.2.1 ∈ ab_tb := ab_at1 169 (by decide +kernel) (by decide +kernel)
theorem lk_X7_29 : ab_lkF RX7 29 7 4 false .int := ⟨RX7, TX7, 11, tyX7, rfl, by decide, fi_X7, tyX7_ok, nmX7, rfl, rfl, Or.inl pf_X7_29⟩
theorem pf_X7_32 : Cond.fieldLink RX7 32 (TX7 5).1 (TX7 5).2.1 (TX7 5).2.2.1 ∈ ab_tb := ab_at1 171 (by decide +kernel) (by decide +kernel)
theorem lk_X7_32 : ab_lkF RX7 32 7 5 false .int := ⟨RX7, TX7, 11, tyX7, rfl, by decide, fi_X7, tyX7_ok, nmX7, rfl, rfl, Or.inl pf_X7_32⟩
theorem pf_X7_35 : Cond.fieldLink RX7 35 (TX7 6).1 (TX7 6).2.1 (TX7 6).2.2.1 ∈ ab_tb := ab_at1 172 (by decide +kernel) (by decide +kernel)
theorem lk_X7_35 : ab_lkF RX7 35 7 6 false .int := ⟨RX7, TX7, 11, tyX7, rfl, by decide, fi_X7, tyX7_ok, nmX7, rfl, rfl, Or.inl pf_X7_35⟩
theorem pf_X7_38 : Cond.fieldLink RX7 38 (TX7 7).1 (TX7 7).2.1 (TX7 7).2.2.1 ∈ ab_tb := ab_at1 173 (by decide +kernel) (by decide +kernel)
theorem lk_X7_38 : ab_lkF RX7 38 7 7 false .int := ⟨RX7, TX7, 11, tyX7, rfl, by decide, fi_X7, tyX7_ok, nmX7, rfl, rfl, Or.inl pf_X7_38⟩
theorem pf_X7_41 : Cond.fieldLink RX7 41 (TX7 8).1 (TX7 8).2.1 (TX7 8).2.2.1 ∈ ab_tb := ab_at1 174 (by decide +kernel) (by decide +kernel)
theorem lk_X7_41 : ab_lkF RX7 41 7 8 false .int := ⟨RX7, TX7, 11, tyX7, rfl, by decide, fi_X7, tyX7_ok, nmX7, rfl, rfl, Or.inl pf_X7_41⟩
theorem pf_X7_44 : Cond.fieldLink RX7 44 (TX7 9).1 (TX7 9).2.1 (TX7 9).2.2.1 ∈ ab_tb := ab_at1 175 (by decide +kernel) (by decide +kernel)
theorem lk_X7_44 : ab_lkF RX7 44 7 9 false .int := ⟨RX7, TX7, 11, tyX7, rfl, by decide, fi_X7, tyX7_ok, nmX7, rfl, rfl, Or.inl pf_X7_44⟩
theorem pf_X7_47 : Cond.fieldLink RX7 47 (TX7 10).1 (TX7 10).2.1 (TX7 10).2.2.1 ∈ ab_tb := ab_at1 176 (by decide +kernel) (by decide +kernel)
theorem lk_X7_47 : ab_lkF RX7 47 7 10 false .int := ⟨RX7, TX7, 11, tyX7, rfl, by decide, fi_X7, tyX7_ok, nmX7, rfl, rfl, Or.inl pf_X7_47⟩
theorem pm_X7_184 : Cond.methodLink RX7 184 yX7_runEnd ∈ ab_tb := ab_at3 125 (by decide +kernel) (by decide +kernel)
theorem mf_X7_runEnd : ab_mfV yX7_runEnd cX7_runEnd 4 (some .int) 2 := ⟨ab_at3 127 (by decide +kernel) (by decide +kernel), ab_at0 5 (by decide +kernel) (by decide +kernel), ab_at1 2 (by decide +kernel) (by decide +kernel), ab_at3 128 (by decide +kernel) (by decide +kernel), by decide +kernel, by decide⟩
theorem pg_J0_38 : Cond.fieldLink RJ0 38 "java/lang/String" "COMPACT_STRINGS" "Z" ∈ ab_tb := ab_at3 146 (by decide +kernel) (by decide +kernel)
theorem pg_J0_15 : Cond.fieldLink RJ0 15 "java/lang/String" "coder" "B" ∈ ab_tb := ab_at8 169 (by decide +kernel) (by decide +kernel)
theorem pg_J0_9 : Cond.fieldLink RJ0 9 "java/lang/String" "value" "[B" ∈ ab_tb := ab_at8 168 (by decide +kernel) (by decide +kernel)
theorem pm_J0_335 : Cond.methodLink RJ0 335 yJ0_coder_7d493 ∈ ab_tb := ab_at3 142 (by decide +kernel) (by decide +kernel)
theorem mf_J0_coder_7d493 : ab_mfV yJ0_coder_7d493 cJ0_coder_7d493 1 (some .byte) 0 := ⟨ab_at3 143 (by decide +kernel) (by decide +kernel), ab_at3 144 (by decide +kernel) (by decide +kernel), ab_at1 20 (by decide +kernel) (by decide +kernel), ab_at3 145 (by decide +kernel) (by decide +kernel), by decide +kernel, by decide⟩
theorem pm_J1_9 : Cond.methodLink RJ1 9 yJ0_checkIndex_df160 ∈ ab_tb := ab_at3 159 (by decide +kernel) (by decide +kernel)
theorem pm_J0_492 : Cond.methodLink RJ0 492 yJ0_isLatin1_aae02 ∈ ab_tb := ab_at3 152 (by decide +kernel) (by decide +kernel)
theorem mf_J0_isLatin1_aae02 : ab_mfV yJ0_isLatin1_aae02 cJ0_isLatin1_aae02 1 (some .boolean) 0 := ⟨ab_at3 153 (by decide +kernel) (by decide +kernel), ab_at3 154 (by decide +kernel) (by decide +kernel), ab_at1 20 (by decide +kernel) (by decide +kernel), ab_at3 155 (by decide +kernel) (by decide +kernel), by decide +kernel, by decide⟩
theorem pm_J0_495 : Cond.methodLink RJ0 495 yJ1_charAt_3b067 ∈ ab_tb := ab_at3 156 (by decide +kernel) (by decide +kernel)
theorem mf_J1_charAt_3b067 : ab_mfS yJ1_charAt_3b067 cJ1_charAt_3b067 2 (some .char) 2 := ⟨ab_at3 157 (by decide +kernel) (by decide +kernel), ab_at1 21 (by decide +kernel) (by decide +kernel), ab_at3 158 (by decide +kernel) (by decide +kernel), by decide +kernel, by decide⟩
theorem pm_X7_187 : Cond.methodLink RX7 187 yJ0_length_8abf5 ∈ ab_tb := ab_at3 138 (by decide +kernel) (by decide +kernel)
theorem mf_J0_length_8abf5 : ab_mfV yJ0_length_8abf5 cJ0_length_8abf5 1 (some .int) 0 := ⟨ab_at3 139 (by decide +kernel) (by decide +kernel), ab_at3 140 (by decide +kernel) (by decide +kernel), ab_at1 20 (by decide +kernel) (by decide +kernel), ab_at3 141 (by decide +kernel) (by decide +kernel), by decide +kernel, by decide⟩
theorem pm_X7_191 : Cond.methodLink RX7 191 yJ0_charAt_5068e ∈ ab_tb := ab_at3 148 (by decide +kernel) (by decide +kernel)
theorem mf_J0_charAt_5068e : ab_mfV yJ0_charAt_5068e cJ0_charAt_5068e 2 (some .char) 1 := ⟨ab_at3 149 (by decide +kernel) (by decide +kernel), ab_at3 150 (by decide +kernel) (by decide +kernel), ab_at1 20 (by decide +kernel) (by decide +kernel), ab_at3 151 (by decide +kernel) (by decide +kernel), by decide +kernel, by decide⟩
theorem pm_X7_152 : Cond.methodLink RX7 152 yX10_isFull ∈ ab_tb := ab_at3 190 (by decide +kernel) (by decide +kernel)
theorem mf_X10_isFull : ab_mfV yX10_isFull cX10_isFull 1 (some .boolean) 0 := ⟨ab_at3 191 (by decide +kernel) (by decide +kernel), ab_at3 192 (by decide +kernel) (by decide +kernel), ab_at1 4 (by decide +kernel) (by decide +kernel), ab_at3 193 (by decide +kernel) (by decide +kernel), by decide +kernel, by decide⟩
theorem pm_X7_66 : Cond.methodLink RX7 66 yX7_advance ∈ ab_tb := ab_at3 121 (by decide +kernel) (by decide +kernel)
theorem mf_X7_advance : ab_mfV yX7_advance cX7_advance 3 none 0 := ⟨ab_at3 123 (by decide +kernel) (by decide +kernel), ab_at0 4 (by decide +kernel) (by decide +kernel), ab_at1 2 (by decide +kernel) (by decide +kernel), ab_at3 124 (by decide +kernel) (by decide +kernel), by decide +kernel, by decide⟩
theorem pm_X7_141 : Cond.methodLink RX7 141 yX7_fail ∈ ab_tb := ab_at3 194 (by decide +kernel) (by decide +kernel)
theorem mf_X7_fail : ab_mfV yX7_fail cX7_fail 2 (some .boolean) 1 := ⟨ab_at3 196 (by decide +kernel) (by decide +kernel), ab_at0 9 (by decide +kernel) (by decide +kernel), ab_at1 2 (by decide +kernel) (by decide +kernel), ab_at3 197 (by decide +kernel) (by decide +kernel), by decide +kernel, by decide⟩
theorem pm_X7_59 : Cond.methodLink RX7 59 Lib.Math.max.name ∈ ab_tb := ab_at3 117 (by decide +kernel) (by decide +kernel)
theorem pm_X7_155 : Cond.methodLink RX7 155 yX7_number ∈ ab_tb := ab_at3 202 (by decide +kernel) (by decide +kernel)
theorem mf_X7_number : ab_mfV yX7_number cX7_number 3 (some .int) 0 := ⟨ab_at3 204 (by decide +kernel) (by decide +kernel), ab_at0 11 (by decide +kernel) (by decide +kernel), ab_at1 2 (by decide +kernel) (by decide +kernel), ab_at3 205 (by decide +kernel) (by decide +kernel), by decide +kernel, by decide⟩
theorem lk_X7_144 : ab_lkF RX7 144 10 3 false .int := ⟨RX10, TX10, 4, tyX10, rfl, by decide, fi_X10, tyX10_ok, nmX10, rfl, rfl, Or.inr ⟨"CloudMarket", ab_in1 (List.mem_of_getElem? (i := 69) (by decide +kernel))⟩⟩
theorem pm_X7_159 : Cond.methodLink RX7 159 yX10_set ∈ ab_tb := ab_at3 206 (by decide +kernel) (by decide +kernel)
theorem pm_X7_163 : Cond.methodLink RX7 163 yX10_insertRow ∈ ab_tb := ab_at3 211 (by decide +kernel) (by decide +kernel)
theorem pm_X7_87 : Cond.methodLink RX7 87 yX7_opens ∈ ab_tb := ab_at3 186 (by decide +kernel) (by decide +kernel)
theorem mf_X7_opens : ab_mfV yX7_opens cX7_opens 2 (some .boolean) 1 := ⟨ab_at3 188 (by decide +kernel) (by decide +kernel), ab_at0 8 (by decide +kernel) (by decide +kernel), ab_at1 2 (by decide +kernel) (by decide +kernel), ab_at3 189 (by decide +kernel) (by decide +kernel), by decide +kernel, by decide⟩
theorem lk_X7_105 : ab_lkF RX7 105 1 2 true (.object "CloudMarket$Table") := ⟨RX1, TX1, 6, tyX1, rfl, by decide, fi_X1, tyX1_ok, nmX1, rfl, rfl, Or.inr ⟨"CloudMarket", ab_in1 (List.mem_of_getElem? (i := 137) (by decide +kernel))⟩⟩
theorem pm_X7_91 : Cond.methodLink RX7 91 yX7_puts ∈ ab_tb := ab_at3 198 (by decide +kernel) (by decide +kernel)
theorem mf_X7_puts : ab_mfV yX7_puts cX7_puts 6 (some .boolean) 4 := ⟨ab_at3 200 (by decide +kernel) (by decide +kernel), ab_at0 10 (by decide +kernel) (by decide +kernel), ab_at1 2 (by decide +kernel) (by decide +kernel), ab_at3 201 (by decide +kernel) (by decide +kernel), by decide +kernel, by decide⟩
theorem lk_X7_100 : ab_lkF RX7 100 1 1 true (.object "CloudMarket$Table") := ⟨RX1, TX1, 6, tyX1, rfl, by decide, fi_X1, tyX1_ok, nmX1, rfl, rfl, Or.inr ⟨"CloudMarket", ab_in1 (List.mem_of_getElem? (i := 131) (by decide +kernel))⟩⟩
theorem pm_X7_149 : Cond.methodLink RX7 149 yX10_get ∈ ab_tb := ab_at3 226 (by decide +kernel) (by decide +kernel)
theorem pm_X7_95 : Cond.methodLink RX7 95 yX7_keeps ∈ ab_tb := ab_at3 207 (by decide +kernel) (by decide +kernel)
theorem mf_X7_keeps : ab_mfV yX7_keeps cX7_keeps 2 (some .boolean) 1 := ⟨ab_at3 209 (by decide +kernel) (by decide +kernel), ab_at0 12 (by decide +kernel) (by decide +kernel), ab_at1 2 (by decide +kernel) (by decide +kernel), ab_at3 210 (by decide +kernel) (by decide +kernel), by decide +kernel, by decide⟩
theorem pm_X7_79 : Cond.methodLink RX7 79 yX7_isWord ∈ ab_tb := ab_at3 134 (by decide +kernel) (by decide +kernel)
theorem mf_X7_isWord : ab_mfV yX7_isWord cX7_isWord 4 (some .boolean) 1 := ⟨ab_at3 136 (by decide +kernel) (by decide +kernel), ab_at0 7 (by decide +kernel) (by decide +kernel), ab_at1 2 (by decide +kernel) (by decide +kernel), ab_at3 137 (by decide +kernel) (by decide +kernel), by decide +kernel, by decide⟩
theorem lk_X7_130 : ab_lkF RX7 130 1 5 true (.object "CloudMarket$Sum") := ⟨RX1, TX1, 6, tyX1, rfl, by decide, fi_X1, tyX1_ok, nmX1, rfl, rfl, Or.inr ⟨"CloudMarket", ab_in1 (List.mem_of_getElem? (i := 148) (by decide +kernel))⟩⟩
theorem pm_X7_170 : Cond.methodLink RX7 170 yX9_add ∈ ab_tb := ab_at4 16 (by decide +kernel) (by decide +kernel)
theorem pm_X7_173 : Cond.methodLink RX7 173 yX7_name ∈ ab_tb := ab_at4 8 (by decide +kernel) (by decide +kernel)
theorem mf_X7_name : ab_mfV yX7_name cX7_name 1 (some .int) 0 := ⟨ab_at4 10 (by decide +kernel) (by decide +kernel), ab_at0 19 (by decide +kernel) (by decide +kernel), ab_at1 2 (by decide +kernel) (by decide +kernel), ab_at4 11 (by decide +kernel) (by decide +kernel), by decide +kernel, by decide⟩
theorem pm_X7_138 : Cond.methodLink RX7 138 yX7_sum ∈ ab_tb := ab_at3 236 (by decide +kernel) (by decide +kernel)
theorem mf_X7_sum : ab_mfV yX7_sum cX7_sum 8 (some .boolean) 1 := ⟨ab_at3 238 (by decide +kernel) (by decide +kernel), ab_at0 16 (by decide +kernel) (by decide +kernel), ab_at1 2 (by decide +kernel) (by decide +kernel), ab_at3 239 (by decide +kernel) (by decide +kernel), by decide +kernel, by decide⟩
theorem pm_X7_73 : Cond.methodLink RX7 73 yX7_takes ∈ ab_tb := ab_at4 4 (by decide +kernel) (by decide +kernel)
theorem mf_X7_takes : ab_mfV yX7_takes cX7_takes 2 (some .boolean) 1 := ⟨ab_at4 6 (by decide +kernel) (by decide +kernel), ab_at0 18 (by decide +kernel) (by decide +kernel), ab_at1 2 (by decide +kernel) (by decide +kernel), ab_at4 7 (by decide +kernel) (by decide +kernel), by decide +kernel, by decide⟩
theorem pm_X7_167 : Cond.methodLink RX7 167 yX7_factor ∈ ab_tb := ab_at4 0 (by decide +kernel) (by decide +kernel)
theorem mf_X7_factor : ab_mfV yX7_factor cX7_factor 3 (some .boolean) 1 := ⟨ab_at4 2 (by decide +kernel) (by decide +kernel), ab_at0 17 (by decide +kernel) (by decide +kernel), ab_at1 2 (by decide +kernel) (by decide +kernel), ab_at4 3 (by decide +kernel) (by decide +kernel), by decide +kernel, by decide⟩
theorem pm_X7_133 : Cond.methodLink RX7 133 yX9_clear ∈ ab_tb := ab_at3 235 (by decide +kernel) (by decide +kernel)
theorem pm_X7_118 : Cond.methodLink RX7 118 yX7_isFirst ∈ ab_tb := ab_at3 228 (by decide +kernel) (by decide +kernel)
theorem mf_X7_isFirst : ab_mfV yX7_isFirst cX7_isFirst 2 (some .boolean) 1 := ⟨ab_at3 230 (by decide +kernel) (by decide +kernel), ab_at0 15 (by decide +kernel) (by decide +kernel), ab_at1 2 (by decide +kernel) (by decide +kernel), ab_at3 231 (by decide +kernel) (by decide +kernel), by decide +kernel, by decide⟩
theorem lk_X7_121 : ab_lkF RX7 121 1 4 true (.object "CloudMarket$Table") := ⟨RX1, TX1, 6, tyX1, rfl, by decide, fi_X1, tyX1_ok, nmX1, rfl, rfl, Or.inr ⟨"CloudMarket", ab_in1 (List.mem_of_getElem? (i := 145) (by decide +kernel))⟩⟩
theorem lk_X7_110 : ab_lkF RX7 110 1 3 true (.object "CloudMarket$Table") := ⟨RX1, TX1, 6, tyX1, rfl, by decide, fi_X1, tyX1_ok, nmX1, rfl, rfl, Or.inr ⟨"CloudMarket", ab_in1 (List.mem_of_getElem? (i := 142) (by decide +kernel))⟩⟩
theorem pm_X7_113 : Cond.methodLink RX7 113 yX7_reservation ∈ ab_tb := ab_at3 222 (by decide +kernel) (by decide +kernel)
theorem mf_X7_reservation : ab_mfV yX7_reservation cX7_reservation 2 (some .boolean) 1 := ⟨ab_at3 224 (by decide +kernel) (by decide +kernel), ab_at0 14 (by decide +kernel) (by decide +kernel), ab_at1 2 (by decide +kernel) (by decide +kernel), ab_at3 225 (by decide +kernel) (by decide +kernel), by decide +kernel, by decide⟩
theorem lk_X7_83 : ab_lkF RX7 83 1 0 true (.object "CloudMarket$Table") := ⟨RX1, TX1, 6, tyX1, rfl, by decide, fi_X1, tyX1_ok, nmX1, rfl, rfl, Or.inr ⟨"CloudMarket", ab_in1 (List.mem_of_getElem? (i := 125) (by decide +kernel))⟩⟩
theorem pm_X7_69 : Cond.methodLink RX7 69 yX7_statement ∈ ab_tb := ab_at3 129 (by decide +kernel) (by decide +kernel)
theorem mf_X7_statement : ab_mfV yX7_statement cX7_statement 1 (some .boolean) 0 := ⟨ab_at3 131 (by decide +kernel) (by decide +kernel), ab_at0 6 (by decide +kernel) (by decide +kernel), ab_at1 2 (by decide +kernel) (by decide +kernel), ab_at3 132 (by decide +kernel) (by decide +kernel), by decide +kernel, by decide⟩
theorem pm_X7_62 : Cond.methodLink RX7 62 yX7_sortOf ∈ ab_tb := ab_at3 118 (by decide +kernel) (by decide +kernel)
theorem mf_X7_sortOf : ab_mfS yX7_sortOf cX7_sortOf 1 (some .int) 1 := ⟨ab_at3 119 (by decide +kernel) (by decide +kernel), ab_at1 2 (by decide +kernel) (by decide +kernel), ab_at3 120 (by decide +kernel) (by decide +kernel), by decide +kernel, by decide⟩
theorem pm_X7_50 : Cond.methodLink RX7 50 yX1_reset ∈ ab_tb := ab_at3 115 (by decide +kernel) (by decide +kernel)
theorem pm_X7_53 : Cond.methodLink RX7 53 Lib.Math.min.name ∈ ab_tb := ab_at3 116 (by decide +kernel) (by decide +kernel)
theorem lk_X8_103 : ab_lkF RX8 103 10 3 false .int := ⟨RX10, TX10, 4, tyX10, rfl, by decide, fi_X10, tyX10_ok, nmX10, rfl, rfl, Or.inr ⟨"CloudMarket", ab_in1 (List.mem_of_getElem? (i := 71) (by decide +kernel))⟩⟩
theorem pm_X8_168 : Cond.methodLink RX8 168 yX1_priceAt ∈ ab_tb := ab_at4 42 (by decide +kernel) (by decide +kernel)
theorem mf_X1_priceAt : ab_mfV yX1_priceAt cX1_priceAt 5 (some .int) 2 := ⟨ab_at4 43 (by decide +kernel) (by decide +kernel), ab_at4 44 (by decide +kernel) (by decide +kernel), ab_at1 3 (by decide +kernel) (by decide +kernel), ab_at4 45 (by decide +kernel) (by decide +kernel), by decide +kernel, by decide⟩
theorem pm_X8_165 : Cond.methodLink RX8 165 yX10_total ∈ ab_tb := ab_at4 41 (by decide +kernel) (by decide +kernel)
theorem mf_X10_total : ab_mfV yX10_total cX10_total 4 (some .int) 1 := ⟨ab_at2 184 (by decide +kernel) (by decide +kernel), ab_at2 185 (by decide +kernel) (by decide +kernel), ab_at1 4 (by decide +kernel) (by decide +kernel), ab_at2 186 (by decide +kernel) (by decide +kernel), by decide +kernel, by decide⟩
theorem pm_X8_40 : Cond.methodLink RX8 40 yX10_clear ∈ ab_tb := ab_at4 33 (by decide +kernel) (by decide +kernel)
theorem pm_X8_43 : Cond.methodLink RX8 43 yJ7_fill_d0a16 ∈ ab_tb := ab_at4 34 (by decide +kernel) (by decide +kernel)
theorem mf_J7_fill_d0a16 : ab_mfS yJ7_fill_d0a16 cJ7_fill_d0a16 5 none 2 := ⟨ab_at4 35 (by decide +kernel) (by decide +kernel), ab_at1 7 (by decide +kernel) (by decide +kernel), ab_at4 36 (by decide +kernel) (by decide +kernel), by decide +kernel, by decide⟩
theorem pm_X8_49 : Cond.methodLink RX8 49 yX8_setPrices ∈ ab_tb := ab_at4 37 (by decide +kernel) (by decide +kernel)
theorem mf_X8_setPrices : ab_mfV yX8_setPrices cX8_setPrices 5 none 1 := ⟨ab_at4 39 (by decide +kernel) (by decide +kernel), ab_at0 20 (by decide +kernel) (by decide +kernel), ab_at1 8 (by decide +kernel) (by decide +kernel), ab_at4 40 (by decide +kernel) (by decide +kernel), by decide +kernel, by decide⟩
theorem pm_X8_69 : Cond.methodLink RX8 69 yJ6_bitCount_0f7a4 ∈ ab_tb := ab_at5 155 (by decide +kernel) (by decide +kernel)
theorem pm_X8_82 : Cond.methodLink RX8 82 yX8_spentBy ∈ ab_tb := ab_at5 1 (by decide +kernel) (by decide +kernel)
theorem mf_X8_spentBy : ab_mfV yX8_spentBy cX8_spentBy 2 (some .long) 1 := ⟨ab_at4 179 (by decide +kernel) (by decide +kernel), ab_at4 180 (by decide +kernel) (by decide +kernel), ab_at1 8 (by decide +kernel) (by decide +kernel), ab_at4 181 (by decide +kernel) (by decide +kernel), by decide +kernel, by decide⟩
theorem pk_X8_86 : Cond.constantLong RX8 86 100 ∈ ab_tb := ab_at5 2 (by decide +kernel) (by decide +kernel)
theorem lk_X8_88 : ab_lkF RX8 88 1 2 true (.object "CloudMarket$Table") := ⟨RX1, TX1, 6, tyX1, rfl, by decide, fi_X1, tyX1_ok, nmX1, rfl, rfl, Or.inr ⟨"CloudMarket", ab_in1 (List.mem_of_getElem? (i := 138) (by decide +kernel))⟩⟩
theorem pm_X8_99 : Cond.methodLink RX8 99 yX8_left ∈ ab_tb := ab_at4 118 (by decide +kernel) (by decide +kernel)
theorem pm_X8_106 : Cond.methodLink RX8 106 yX8_fits ∈ ab_tb := ab_at4 114 (by decide +kernel) (by decide +kernel)
theorem mf_X8_fits : ab_mfV yX8_fits cX8_fits 4 (some .boolean) 3 := ⟨ab_at4 115 (by decide +kernel) (by decide +kernel), ab_at4 116 (by decide +kernel) (by decide +kernel), ab_at1 8 (by decide +kernel) (by decide +kernel), ab_at4 117 (by decide +kernel) (by decide +kernel), by decide +kernel, by decide⟩
theorem pm_X8_123 : Cond.methodLink RX8 123 yX8_lowestFree ∈ ab_tb := ab_at5 161 (by decide +kernel) (by decide +kernel)
theorem mf_X8_lowestFree : ab_mfV yX8_lowestFree cX8_lowestFree 2 (some .int) 0 := ⟨ab_at5 163 (by decide +kernel) (by decide +kernel), ab_at0 30 (by decide +kernel) (by decide +kernel), ab_at1 8 (by decide +kernel) (by decide +kernel), ab_at5 164 (by decide +kernel) (by decide +kernel), by decide +kernel, by decide⟩
theorem lk_X8_141 : ab_lkF RX8 141 1 4 true (.object "CloudMarket$Table") := ⟨RX1, TX1, 6, tyX1, rfl, by decide, fi_X1, tyX1_ok, nmX1, rfl, rfl, Or.inr ⟨"CloudMarket", ab_in1 (List.mem_of_getElem? (i := 146) (by decide +kernel))⟩⟩
theorem pm_X8_144 : Cond.methodLink RX8 144 yX10_insertRow ∈ ab_tb := ab_at5 228 (by decide +kernel) (by decide +kernel)
theorem pm_X10_42 : Cond.methodLink RX10 42 yX10_has ∈ ab_tb := ab_at5 169 (by decide +kernel) (by decide +kernel)
theorem pm_X8_148 : Cond.methodLink RX8 148 yX10_removeRow ∈ ab_tb := ab_at5 165 (by decide +kernel) (by decide +kernel)
theorem mf_X10_removeRow : ab_mfV yX10_removeRow cX10_removeRow 2 none 1 := ⟨ab_at5 166 (by decide +kernel) (by decide +kernel), ab_at5 167 (by decide +kernel) (by decide +kernel), ab_at1 4 (by decide +kernel) (by decide +kernel), ab_at5 168 (by decide +kernel) (by decide +kernel), by decide +kernel, by decide⟩
theorem pm_X8_161 : Cond.methodLink RX8 161 yX8_end ∈ ab_tb := ab_at5 130 (by decide +kernel) (by decide +kernel)
theorem mf_X8_end : ab_mfV yX8_end cX8_end 3 none 2 := ⟨ab_at5 131 (by decide +kernel) (by decide +kernel), ab_at5 132 (by decide +kernel) (by decide +kernel), ab_at1 8 (by decide +kernel) (by decide +kernel), ab_at5 133 (by decide +kernel) (by decide +kernel), by decide +kernel, by decide⟩
theorem pm_X8_171 : Cond.methodLink RX8 171 yX8_giveNotice ∈ ab_tb := ab_at5 143 (by decide +kernel) (by decide +kernel)
theorem mf_X8_giveNotice : ab_mfV yX8_giveNotice cX8_giveNotice 3 none 2 := ⟨ab_at5 144 (by decide +kernel) (by decide +kernel), ab_at5 145 (by decide +kernel) (by decide +kernel), ab_at1 8 (by decide +kernel) (by decide +kernel), ab_at5 146 (by decide +kernel) (by decide +kernel), by decide +kernel, by decide⟩
theorem pm_X8_181 : Cond.methodLink RX8 181 yX8_start ∈ ab_tb := ab_at5 157 (by decide +kernel) (by decide +kernel)
theorem mf_X8_start : ab_mfV yX8_start cX8_start 7 (some .int) 5 := ⟨ab_at5 158 (by decide +kernel) (by decide +kernel), ab_at5 159 (by decide +kernel) (by decide +kernel), ab_at1 8 (by decide +kernel) (by decide +kernel), ab_at5 160 (by decide +kernel) (by decide +kernel), by decide +kernel, by decide⟩
theorem pm_X8_178 : Cond.methodLink RX8 178 yX8_tightestHost ∈ ab_tb := ab_at5 156 (by decide +kernel) (by decide +kernel)
theorem mf_X8_tightestHost : ab_mfV yX8_tightestHost cX8_tightestHost 7 (some .int) 2 := ⟨ab_at4 111 (by decide +kernel) (by decide +kernel), ab_at4 112 (by decide +kernel) (by decide +kernel), ab_at1 8 (by decide +kernel) (by decide +kernel), ab_at4 113 (by decide +kernel) (by decide +kernel), by decide +kernel, by decide⟩
theorem pm_X8_174 : Cond.methodLink RX8 174 yX8_isFull ∈ ab_tb := ab_at5 151 (by decide +kernel) (by decide +kernel)
theorem mf_X8_isFull : ab_mfV yX8_isFull cX8_isFull 1 (some .boolean) 0 := ⟨ab_at5 152 (by decide +kernel) (by decide +kernel), ab_at5 153 (by decide +kernel) (by decide +kernel), ab_at1 8 (by decide +kernel) (by decide +kernel), ab_at5 154 (by decide +kernel) (by decide +kernel), by decide +kernel, by decide⟩
theorem pm_X8_151 : Cond.methodLink RX8 151 yX8_endDue ∈ ab_tb := ab_at5 126 (by decide +kernel) (by decide +kernel)
theorem mf_X8_endDue : ab_mfV yX8_endDue cX8_endDue 5 (some .int) 1 := ⟨ab_at5 128 (by decide +kernel) (by decide +kernel), ab_at0 26 (by decide +kernel) (by decide +kernel), ab_at1 8 (by decide +kernel) (by decide +kernel), ab_at5 129 (by decide +kernel) (by decide +kernel), by decide +kernel, by decide⟩
theorem pm_X8_155 : Cond.methodLink RX8 155 yX8_setNotices ∈ ab_tb := ab_at5 139 (by decide +kernel) (by decide +kernel)
theorem mf_X8_setNotices : ab_mfV yX8_setNotices cX8_setNotices 4 none 1 := ⟨ab_at5 141 (by decide +kernel) (by decide +kernel), ab_at0 28 (by decide +kernel) (by decide +kernel), ab_at1 8 (by decide +kernel) (by decide +kernel), ab_at5 142 (by decide +kernel) (by decide +kernel), by decide +kernel, by decide⟩
theorem pm_X8_158 : Cond.methodLink RX8 158 yX8_grantRequests ∈ ab_tb := ab_at5 147 (by decide +kernel) (by decide +kernel)
theorem mf_X8_grantRequests : ab_mfV yX8_grantRequests cX8_grantRequests 8 none 1 := ⟨ab_at5 149 (by decide +kernel) (by decide +kernel), ab_at0 29 (by decide +kernel) (by decide +kernel), ab_at1 8 (by decide +kernel) (by decide +kernel), ab_at5 150 (by decide +kernel) (by decide +kernel), by decide +kernel, by decide⟩
theorem pm_X11_1 : Cond.methodLink RX11 1 Lib.objectInit ∈ ab_tb := ab_at1 33 (by decide +kernel) (by decide +kernel)
theorem nw_X11_7 : ab_lkN RX11 7 7 [some none, none, some none, some none, none, none, none, none, none, none, none] := ⟨RX7, TX7, 11, tyX7, rfl, fi_X7, tyX7_ok, ab_at1 36 (by decide +kernel) (by decide +kernel), ab_at1 37 (by decide +kernel) (by decide +kernel), ab_at1 2 (by decide +kernel) (by decide +kernel), rfl, by decide +kernel⟩
theorem pn_X11_9 : ∃ host, Cond.methodLinkNest RX11 9 yX7_init host ∈ lw_tbl := ⟨"CloudMarket", ab_in1 (List.mem_of_getElem? (i := 38) (by decide +kernel))⟩
theorem mf_X7_init : ab_mfI yX7_init cX7_init 1 0 := ⟨ab_at1 39 (by decide +kernel) (by decide +kernel), ab_at1 2 (by decide +kernel) (by decide +kernel), ab_at1 40 (by decide +kernel) (by decide +kernel), by decide +kernel, by decide, rfl⟩
theorem pf_X11_10 : Cond.fieldLink RX11 10 (TX11 0).1 (TX11 0).2.1 (TX11 0).2.2.1 ∈ ab_tb := ab_at2 131 (by decide +kernel) (by decide +kernel)
theorem lk_X11_10 : ab_lkF RX11 10 11 0 true (.object "CloudMarket$Reader") := ⟨RX11, TX11, 9, tyX11, rfl, by decide, fi_X11, tyX11_ok, nmX11, rfl, rfl, Or.inl pf_X11_10⟩
theorem nw_X11_16 : ab_lkN RX11 16 1 [some none, some none, some none, some none, some none, some none] := ⟨RX1, TX1, 6, tyX1, rfl, fi_X1, tyX1_ok, ab_at1 200 (by decide +kernel) (by decide +kernel), ab_at1 43 (by decide +kernel) (by decide +kernel), ab_at1 3 (by decide +kernel) (by decide +kernel), rfl, by decide +kernel⟩
theorem pm_X11_18 : Cond.methodLink RX11 18 yX1_init ∈ ab_tb := ab_at1 201 (by decide +kernel) (by decide +kernel)
theorem pf_X11_19 : Cond.fieldLink RX11 19 (TX11 1).1 (TX11 1).2.1 (TX11 1).2.2.1 ∈ ab_tb := ab_at2 132 (by decide +kernel) (by decide +kernel)
theorem lk_X11_19 : ab_lkF RX11 19 11 1 true (.object "CloudMarket$Cloud") := ⟨RX11, TX11, 9, tyX11, rfl, by decide, fi_X11, tyX11_ok, nmX11, rfl, rfl, Or.inl pf_X11_19⟩
theorem nw_X11_23 : ab_lkN RX11 23 8 [none, none, some none, some none, some none, some none, some none] := ⟨RX8, TX8, 7, tyX8, rfl, fi_X8, tyX8_ok, ab_at1 202 (by decide +kernel) (by decide +kernel), ab_at1 203 (by decide +kernel) (by decide +kernel), ab_at1 8 (by decide +kernel) (by decide +kernel), rfl, by decide +kernel⟩
theorem pn_X11_25 : ∃ host, Cond.methodLinkNest RX11 25 yX8_init host ∈ lw_tbl := ⟨"CloudMarket", ab_in1 (List.mem_of_getElem? (i := 204) (by decide +kernel))⟩
theorem pf_X11_26 : Cond.fieldLink RX11 26 (TX11 2).1 (TX11 2).2.1 (TX11 2).2.2.1 ∈ ab_tb := ab_at2 133 (by decide +kernel) (by decide +kernel)
theorem lk_X11_26 : ab_lkF RX11 26 11 2 true (.object "CloudMarket$Situation") := ⟨RX11, TX11, 9, tyX11, rfl, by decide, fi_X11, tyX11_ok, nmX11, rfl, rfl, Or.inl pf_X11_26⟩
theorem pf_X11_30 : Cond.fieldLink RX11 30 (TX11 3).1 (TX11 3).2.1 (TX11 3).2.2.1 ∈ ab_tb := ab_at2 134 (by decide +kernel) (by decide +kernel)
theorem lk_X11_30 : ab_lkF RX11 30 11 3 true (.object "CloudMarket$Situation") := ⟨RX11, TX11, 9, tyX11, rfl, by decide, fi_X11, tyX11_ok, nmX11, rfl, rfl, Or.inl pf_X11_30⟩
theorem nw_X11_33 : ab_lkN RX11 33 4 [some none, some none, none, none, none] := ⟨RX4, TX4, 5, tyX4, rfl, fi_X4, tyX4_ok, ab_at2 4 (by decide +kernel) (by decide +kernel), ab_at2 5 (by decide +kernel) (by decide +kernel), ab_at1 9 (by decide +kernel) (by decide +kernel), rfl, by decide +kernel⟩
theorem pm_X11_35 : Cond.methodLink RX11 35 yX4_init ∈ ab_tb := ab_at2 6 (by decide +kernel) (by decide +kernel)
theorem mf_X4_init : ab_mfI yX4_init cX4_init 2 0 := ⟨ab_at2 7 (by decide +kernel) (by decide +kernel), ab_at1 9 (by decide +kernel) (by decide +kernel), ab_at2 8 (by decide +kernel) (by decide +kernel), by decide +kernel, by decide, rfl⟩
theorem pf_X11_36 : Cond.fieldLink RX11 36 (TX11 4).1 (TX11 4).2.1 (TX11 4).2.2.1 ∈ ab_tb := ab_at2 135 (by decide +kernel) (by decide +kernel)
theorem lk_X11_36 : ab_lkF RX11 36 11 4 true (.object "CloudMarket$History") := ⟨RX11, TX11, 9, tyX11, rfl, by decide, fi_X11, tyX11_ok, nmX11, rfl, rfl, Or.inl pf_X11_36⟩
theorem nw_X11_40 : ab_lkN RX11 40 0 [some none, some none] := ⟨RX0, TX0, 2, tyX0, rfl, fi_X0, tyX0_ok, ab_at2 30 (by decide +kernel) (by decide +kernel), ab_at2 31 (by decide +kernel) (by decide +kernel), ab_at1 10 (by decide +kernel) (by decide +kernel), rfl, by decide +kernel⟩
theorem pn_X11_42 : ∃ host, Cond.methodLinkNest RX11 42 yX0_init host ∈ lw_tbl := ⟨"CloudMarket", ab_in2 (List.mem_of_getElem? (i := 32) (by decide +kernel))⟩
theorem mf_X0_init : ab_mfI yX0_init cX0_init 1 0 := ⟨ab_at2 33 (by decide +kernel) (by decide +kernel), ab_at1 10 (by decide +kernel) (by decide +kernel), ab_at2 34 (by decide +kernel) (by decide +kernel), by decide +kernel, by decide, rfl⟩
theorem pf_X11_43 : Cond.fieldLink RX11 43 (TX11 5).1 (TX11 5).2.1 (TX11 5).2.2.1 ∈ ab_tb := ab_at2 136 (by decide +kernel) (by decide +kernel)
theorem lk_X11_43 : ab_lkF RX11 43 11 5 true (.object "CloudMarket$Bills") := ⟨RX11, TX11, 9, tyX11, rfl, by decide, fi_X11, tyX11_ok, nmX11, rfl, rfl, Or.inl pf_X11_43⟩
theorem nw_X11_47 : ab_lkN RX11 47 6 [some none, some none, some none, some none, some none, some none] := ⟨RX6, TX6, 6, tyX6, rfl, fi_X6, tyX6_ok, ab_at2 46 (by decide +kernel) (by decide +kernel), ab_at2 47 (by decide +kernel) (by decide +kernel), ab_at1 11 (by decide +kernel) (by decide +kernel), rfl, by decide +kernel⟩
theorem pn_X11_49 : ∃ host, Cond.methodLinkNest RX11 49 yX6_init host ∈ lw_tbl := ⟨"CloudMarket", ab_in2 (List.mem_of_getElem? (i := 48) (by decide +kernel))⟩
theorem mf_X6_init : ab_mfI yX6_init cX6_init 1 0 := ⟨ab_at2 49 (by decide +kernel) (by decide +kernel), ab_at1 11 (by decide +kernel) (by decide +kernel), ab_at2 50 (by decide +kernel) (by decide +kernel), by decide +kernel, by decide, rfl⟩
theorem pf_X11_50 : Cond.fieldLink RX11 50 (TX11 6).1 (TX11 6).2.1 (TX11 6).2.2.1 ∈ ab_tb := ab_at2 137 (by decide +kernel) (by decide +kernel)
theorem lk_X11_50 : ab_lkF RX11 50 11 6 true (.object "CloudMarket$Packing") := ⟨RX11, TX11, 9, tyX11, rfl, by decide, fi_X11, tyX11_ok, nmX11, rfl, rfl, Or.inl pf_X11_50⟩
theorem nw_X11_54 : ab_lkN RX11 54 3 [some none, none, none] := ⟨RX3, TX3, 3, tyX3, rfl, fi_X3, tyX3_ok, ab_at2 92 (by decide +kernel) (by decide +kernel), ab_at2 93 (by decide +kernel) (by decide +kernel), ab_at1 13 (by decide +kernel) (by decide +kernel), rfl, by decide +kernel⟩
theorem pn_X11_56 : ∃ host, Cond.methodLinkNest RX11 56 yX3_init host ∈ lw_tbl := ⟨"CloudMarket", ab_in2 (List.mem_of_getElem? (i := 94) (by decide +kernel))⟩
theorem mf_X3_init : ab_mfI yX3_init cX3_init 1 0 := ⟨ab_at2 95 (by decide +kernel) (by decide +kernel), ab_at1 13 (by decide +kernel) (by decide +kernel), ab_at2 96 (by decide +kernel) (by decide +kernel), by decide +kernel, by decide, rfl⟩
theorem pf_X11_57 : Cond.fieldLink RX11 57 (TX11 7).1 (TX11 7).2.1 (TX11 7).2.2.1 ∈ ab_tb := ab_at2 138 (by decide +kernel) (by decide +kernel)
theorem lk_X11_57 : ab_lkF RX11 57 11 7 true (.object "CloudMarket$Eviction") := ⟨RX11, TX11, 9, tyX11, rfl, by decide, fi_X11, tyX11_ok, nmX11, rfl, rfl, Or.inl pf_X11_57⟩
theorem nw_X11_61 : ab_lkN RX11 61 2 [some none, some none, none, some none] := ⟨RX2, TX2, 4, tyX2, rfl, fi_X2, tyX2_ok, ab_at2 110 (by decide +kernel) (by decide +kernel), ab_at2 111 (by decide +kernel) (by decide +kernel), ab_at1 14 (by decide +kernel) (by decide +kernel), rfl, by decide +kernel⟩
theorem pn_X11_63 : ∃ host, Cond.methodLinkNest RX11 63 yX2_init host ∈ lw_tbl := ⟨"CloudMarket", ab_in2 (List.mem_of_getElem? (i := 112) (by decide +kernel))⟩
theorem mf_X2_init : ab_mfI yX2_init cX2_init 1 0 := ⟨ab_at2 113 (by decide +kernel) (by decide +kernel), ab_at1 14 (by decide +kernel) (by decide +kernel), ab_at2 114 (by decide +kernel) (by decide +kernel), by decide +kernel, by decide, rfl⟩
theorem pf_X11_64 : Cond.fieldLink RX11 64 (TX11 8).1 (TX11 8).2.1 (TX11 8).2.2.1 ∈ ab_tb := ab_at2 139 (by decide +kernel) (by decide +kernel)
theorem lk_X11_64 : ab_lkF RX11 64 11 8 true (.object "CloudMarket$Drainage") := ⟨RX11, TX11, 9, tyX11, rfl, by decide, fi_X11, tyX11_ok, nmX11, rfl, rfl, Or.inl pf_X11_64⟩
theorem lk_X11_68 : ab_lkF RX11 68 7 1 false .int := ⟨RX7, TX7, 11, tyX7, rfl, by decide, fi_X7, tyX7_ok, nmX7, rfl, rfl, Or.inr ⟨"CloudMarket", ab_in1 (List.mem_of_getElem? (i := 165) (by decide +kernel))⟩⟩
theorem pm_X11_72 : Cond.methodLink RX11 72 yX7_putWord ∈ ab_tb := ab_at2 163 (by decide +kernel) (by decide +kernel)
theorem mf_X7_putWord : ab_mfV yX7_putWord cX7_putWord 3 none 1 := ⟨ab_at2 164 (by decide +kernel) (by decide +kernel), ab_at2 165 (by decide +kernel) (by decide +kernel), ab_at1 2 (by decide +kernel) (by decide +kernel), ab_at2 166 (by decide +kernel) (by decide +kernel), by decide +kernel, by decide⟩
theorem xk_X11_76_80 : ab_lkX RX11 76 80 2 ["java/lang/RuntimeException", "java/lang/Exception"] := ⟨by decide, by decide, by decide +kernel, by decide +kernel, ab_at3 44 (by decide +kernel) (by decide +kernel), ab_at1 19 (by decide +kernel) (by decide +kernel), by decide +kernel, by decide +kernel, by decide +kernel⟩
theorem pm_X11_83 : Cond.methodLink RX11 83 yX7_read ∈ ab_tb := ab_at3 111 (by decide +kernel) (by decide +kernel)
theorem mf_X7_read : ab_mfV yX7_read cX7_read 4 (some .int) 1 := ⟨ab_at3 112 (by decide +kernel) (by decide +kernel), ab_at3 113 (by decide +kernel) (by decide +kernel), ab_at1 2 (by decide +kernel) (by decide +kernel), ab_at3 114 (by decide +kernel) (by decide +kernel), by decide +kernel, by decide⟩
theorem lk_X11_87 : ab_lkF RX11 87 7 3 true (.object "CloudMarket$Cloud") := ⟨RX7, TX7, 11, tyX7, rfl, by decide, fi_X7, tyX7_ok, nmX7, rfl, rfl, Or.inr ⟨"CloudMarket", ab_in1 (List.mem_of_getElem? (i := 168) (by decide +kernel))⟩⟩
theorem pm_X11_90 : Cond.methodLink RX11 90 yX1_copyFrom ∈ ab_tb := ab_at4 17 (by decide +kernel) (by decide +kernel)
theorem mf_X1_copyFrom : ab_mfV yX1_copyFrom cX1_copyFrom 2 none 1 := ⟨ab_at4 18 (by decide +kernel) (by decide +kernel), ab_at4 19 (by decide +kernel) (by decide +kernel), ab_at1 3 (by decide +kernel) (by decide +kernel), ab_at4 20 (by decide +kernel) (by decide +kernel), by decide +kernel, by decide⟩
theorem pm_X11_94 : Cond.methodLink RX11 94 yX8_reset ∈ ab_tb := ab_at4 29 (by decide +kernel) (by decide +kernel)
theorem mf_X8_reset : ab_mfV yX8_reset cX8_reset 2 none 1 := ⟨ab_at4 30 (by decide +kernel) (by decide +kernel), ab_at4 31 (by decide +kernel) (by decide +kernel), ab_at1 8 (by decide +kernel) (by decide +kernel), ab_at4 32 (by decide +kernel) (by decide +kernel), by decide +kernel, by decide⟩
theorem pm_X11_97 : Cond.methodLink RX11 97 yX4_clear ∈ ab_tb := ab_at4 49 (by decide +kernel) (by decide +kernel)
theorem mf_X4_clear : ab_mfV yX4_clear cX4_clear 1 none 0 := ⟨ab_at4 50 (by decide +kernel) (by decide +kernel), ab_at4 51 (by decide +kernel) (by decide +kernel), ab_at1 9 (by decide +kernel) (by decide +kernel), ab_at4 52 (by decide +kernel) (by decide +kernel), by decide +kernel, by decide⟩
theorem lk_X11_100 : ab_lkF RX11 100 7 4 false .int := ⟨RX7, TX7, 11, tyX7, rfl, by decide, fi_X7, tyX7_ok, nmX7, rfl, rfl, Or.inr ⟨"CloudMarket", ab_in1 (List.mem_of_getElem? (i := 170) (by decide +kernel))⟩⟩
theorem lk_X11_103 : ab_lkF RX11 103 1 0 true (.object "CloudMarket$Table") := ⟨RX1, TX1, 6, tyX1, rfl, by decide, fi_X1, tyX1_ok, nmX1, rfl, rfl, Or.inr ⟨"CloudMarket", ab_in1 (List.mem_of_getElem? (i := 126) (by decide +kernel))⟩⟩
theorem lk_X11_107 : ab_lkF RX11 107 10 3 false .int := ⟨RX10, TX10, 4, tyX10, rfl, by decide, fi_X10, tyX10_ok, nmX10, rfl, rfl, Or.inr ⟨"CloudMarket", ab_in1 (List.mem_of_getElem? (i := 68) (by decide +kernel))⟩⟩
theorem lk_X11_112 : ab_lkF RX11 112 8 0 false .int := ⟨RX8, TX8, 7, tyX8, rfl, by decide, fi_X8, tyX8_ok, nmX8, rfl, rfl, Or.inr ⟨"CloudMarket", ab_in1 (List.mem_of_getElem? (i := 212) (by decide +kernel))⟩⟩
theorem pm_X11_161 : Cond.methodLink RX11 161 yX10_has ∈ ab_tb := ab_at2 203 (by decide +kernel) (by decide +kernel)
theorem xk_X11_328_332 : ab_lkX RX11 328 332 0 ["java/lang/RuntimeException", "java/lang/Exception"] := ⟨by decide, by decide, by decide +kernel, by decide +kernel, ab_at4 65 (by decide +kernel) (by decide +kernel), ab_at1 25 (by decide +kernel) (by decide +kernel), by decide +kernel, by decide +kernel, by decide +kernel⟩
theorem pm_X11_119 : Cond.methodLink RX11 119 yX8_left ∈ ab_tb := ab_at4 81 (by decide +kernel) (by decide +kernel)
theorem pm_X11_115 : Cond.methodLink RX11 115 yX11_needRow ∈ ab_tb := ab_at4 61 (by decide +kernel) (by decide +kernel)
theorem mf_X11_needRow : ab_mfV yX11_needRow cX11_needRow 3 none 2 := ⟨ab_at4 63 (by decide +kernel) (by decide +kernel), ab_at0 21 (by decide +kernel) (by decide +kernel), ab_at1 1 (by decide +kernel) (by decide +kernel), ab_at4 64 (by decide +kernel) (by decide +kernel), by decide +kernel, by decide⟩
theorem pm_X11_123 : Cond.methodLink RX11 123 yX8_setOn ∈ ab_tb := ab_at4 92 (by decide +kernel) (by decide +kernel)
theorem mf_X8_setOn : ab_mfV yX8_setOn cX8_setOn 4 (some .int) 1 := ⟨ab_at4 93 (by decide +kernel) (by decide +kernel), ab_at4 94 (by decide +kernel) (by decide +kernel), ab_at1 8 (by decide +kernel) (by decide +kernel), ab_at4 95 (by decide +kernel) (by decide +kernel), by decide +kernel, by decide⟩
theorem pm_X11_126 : Cond.methodLink RX11 126 yX10_total ∈ ab_tb := ab_at2 183 (by decide +kernel) (by decide +kernel)
theorem lk_X11_129 : ab_lkF RX11 129 8 5 true (.object "CloudMarket$Table") := ⟨RX8, TX8, 7, tyX8, rfl, by decide, fi_X8, tyX8_ok, nmX8, rfl, rfl, Or.inr ⟨"CloudMarket", ab_in1 (List.mem_of_getElem? (i := 226) (by decide +kernel))⟩⟩
theorem lk_X11_132 : ab_lkF RX11 132 1 1 true (.object "CloudMarket$Table") := ⟨RX1, TX1, 6, tyX1, rfl, by decide, fi_X1, tyX1_ok, nmX1, rfl, rfl, Or.inr ⟨"CloudMarket", ab_in1 (List.mem_of_getElem? (i := 134) (by decide +kernel))⟩⟩
theorem lk_X11_135 : ab_lkF RX11 135 8 4 true (.object "CloudMarket$Table") := ⟨RX8, TX8, 7, tyX8, rfl, by decide, fi_X8, tyX8_ok, nmX8, rfl, rfl, Or.inr ⟨"CloudMarket", ab_in1 (List.mem_of_getElem? (i := 224) (by decide +kernel))⟩⟩
theorem pm_X11_138 : Cond.methodLink RX11 138 yX10_get ∈ ab_tb := ab_at2 207 (by decide +kernel) (by decide +kernel)
theorem pm_X11_142 : Cond.methodLink RX11 142 yX8_tightestHost ∈ ab_tb := ab_at4 110 (by decide +kernel) (by decide +kernel)
theorem pm_X11_146 : Cond.methodLink RX11 146 yX8_roomOn ∈ ab_tb := ab_at4 126 (by decide +kernel) (by decide +kernel)
theorem mf_X8_roomOn : ab_mfV yX8_roomOn cX8_roomOn 6 (some .int) 3 := ⟨ab_at4 127 (by decide +kernel) (by decide +kernel), ab_at4 128 (by decide +kernel) (by decide +kernel), ab_at1 8 (by decide +kernel) (by decide +kernel), ab_at4 129 (by decide +kernel) (by decide +kernel), by decide +kernel, by decide⟩
theorem lk_X11_149 : ab_lkF RX11 149 8 1 false .int := ⟨RX8, TX8, 7, tyX8, rfl, by decide, fi_X8, tyX8_ok, nmX8, rfl, rfl, Or.inr ⟨"CloudMarket", ab_in1 (List.mem_of_getElem? (i := 214) (by decide +kernel))⟩⟩
theorem pm_X11_333 : Cond.methodLink RX11 333 yX8_runs ∈ ab_tb := ab_at4 141 (by decide +kernel) (by decide +kernel)
theorem pm_X11_152 : Cond.methodLink RX11 152 yX11_needInstance ∈ ab_tb := ab_at4 137 (by decide +kernel) (by decide +kernel)
theorem mf_X11_needInstance : ab_mfV yX11_needInstance cX11_needInstance 2 none 1 := ⟨ab_at4 139 (by decide +kernel) (by decide +kernel), ab_at0 22 (by decide +kernel) (by decide +kernel), ab_at1 1 (by decide +kernel) (by decide +kernel), ab_at4 140 (by decide +kernel) (by decide +kernel), by decide +kernel, by decide⟩
theorem lk_X11_155 : ab_lkF RX11 155 8 2 true (.object "CloudMarket$Table") := ⟨RX8, TX8, 7, tyX8, rfl, by decide, fi_X8, tyX8_ok, nmX8, rfl, rfl, Or.inr ⟨"CloudMarket", ab_in1 (List.mem_of_getElem? (i := 219) (by decide +kernel))⟩⟩
theorem lk_X11_158 : ab_lkF RX11 158 8 3 true (.object "CloudMarket$Table") := ⟨RX8, TX8, 7, tyX8, rfl, by decide, fi_X8, tyX8_ok, nmX8, rfl, rfl, Or.inr ⟨"CloudMarket", ab_in1 (List.mem_of_getElem? (i := 221) (by decide +kernel))⟩⟩
theorem lk_X11_165 : ab_lkF RX11 165 1 2 true (.object "CloudMarket$Table") := ⟨RX1, TX1, 6, tyX1, rfl, by decide, fi_X1, tyX1_ok, nmX1, rfl, rfl, Or.inr ⟨"CloudMarket", ab_in1 (List.mem_of_getElem? (i := 139) (by decide +kernel))⟩⟩
theorem pm_X11_168 : Cond.methodLink RX11 168 yX8_spentBy ∈ ab_tb := ab_at4 178 (by decide +kernel) (by decide +kernel)
theorem pm_X11_172 : Cond.methodLink RX11 172 yX0_reckon ∈ ab_tb := ab_at4 189 (by decide +kernel) (by decide +kernel)
theorem mf_X0_reckon : ab_mfV yX0_reckon cX0_reckon 5 none 2 := ⟨ab_at4 190 (by decide +kernel) (by decide +kernel), ab_at4 191 (by decide +kernel) (by decide +kernel), ab_at1 10 (by decide +kernel) (by decide +kernel), ab_at4 192 (by decide +kernel) (by decide +kernel), by decide +kernel, by decide⟩
theorem lk_X11_176 : ab_lkF RX11 176 0 0 true (.object "CloudMarket$Table") := ⟨RX0, TX0, 2, tyX0, rfl, by decide, fi_X0, tyX0_ok, nmX0, rfl, rfl, Or.inr ⟨"CloudMarket", ab_in2 (List.mem_of_getElem? (i := 39) (by decide +kernel))⟩⟩
theorem pm_X11_179 : Cond.methodLink RX11 179 yX8_regulars ∈ ab_tb := ab_at4 220 (by decide +kernel) (by decide +kernel)
theorem mf_X8_regulars : ab_mfV yX8_regulars cX8_regulars 6 (some .int) 2 := ⟨ab_at4 221 (by decide +kernel) (by decide +kernel), ab_at4 222 (by decide +kernel) (by decide +kernel), ab_at1 8 (by decide +kernel) (by decide +kernel), ab_at4 223 (by decide +kernel) (by decide +kernel), by decide +kernel, by decide⟩
theorem pm_X11_182 : Cond.methodLink RX11 182 yX1_reserved ∈ ab_tb := ab_at4 224 (by decide +kernel) (by decide +kernel)
theorem mf_X1_reserved : ab_mfV yX1_reserved cX1_reserved 7 (some .int) 3 := ⟨ab_at4 225 (by decide +kernel) (by decide +kernel), ab_at4 226 (by decide +kernel) (by decide +kernel), ab_at1 3 (by decide +kernel) (by decide +kernel), ab_at4 227 (by decide +kernel) (by decide +kernel), by decide +kernel, by decide⟩
theorem pm_X11_186 : Cond.methodLink RX11 186 Lib.Math.min.name ∈ ab_tb := ab_at4 229 (by decide +kernel) (by decide +kernel)
theorem pm_X11_191 : Cond.methodLink RX11 191 yX8_isOver ∈ ab_tb := ab_at4 237 (by decide +kernel) (by decide +kernel)
theorem mf_X8_isOver : ab_mfV yX8_isOver cX8_isOver 3 (some .boolean) 2 := ⟨ab_at4 238 (by decide +kernel) (by decide +kernel), ab_at4 239 (by decide +kernel) (by decide +kernel), ab_at1 8 (by decide +kernel) (by decide +kernel), ab_at5 0 (by decide +kernel) (by decide +kernel), by decide +kernel, by decide⟩
theorem lk_X11_195 : ab_lkF RX11 195 1 3 true (.object "CloudMarket$Table") := ⟨RX1, TX1, 6, tyX1, rfl, by decide, fi_X1, tyX1_ok, nmX1, rfl, rfl, Or.inr ⟨"CloudMarket", ab_in1 (List.mem_of_getElem? (i := 143) (by decide +kernel))⟩⟩
theorem pm_X11_198 : Cond.methodLink RX11 198 yX1_isActive ∈ ab_tb := ab_at5 10 (by decide +kernel) (by decide +kernel)
theorem pm_X11_202 : Cond.methodLink RX11 202 yX1_payment ∈ ab_tb := ab_at5 11 (by decide +kernel) (by decide +kernel)
theorem pm_X11_205 : Cond.methodLink RX11 205 yX6_fewestFor ∈ ab_tb := ab_at2 212 (by decide +kernel) (by decide +kernel)
theorem mf_X6_fewestFor : ab_mfV yX6_fewestFor cX6_fewestFor 7 (some .int) 2 := ⟨ab_at2 213 (by decide +kernel) (by decide +kernel), ab_at2 214 (by decide +kernel) (by decide +kernel), ab_at1 11 (by decide +kernel) (by decide +kernel), ab_at2 215 (by decide +kernel) (by decide +kernel), by decide +kernel, by decide⟩
theorem pm_X11_209 : Cond.methodLink RX11 209 yX3_cheapest ∈ ab_tb := ab_at5 19 (by decide +kernel) (by decide +kernel)
theorem mf_X3_cheapest : ab_mfV yX3_cheapest cX3_cheapest 7 (some .int) 4 := ⟨ab_at5 20 (by decide +kernel) (by decide +kernel), ab_at5 21 (by decide +kernel) (by decide +kernel), ab_at1 13 (by decide +kernel) (by decide +kernel), ab_at5 22 (by decide +kernel) (by decide +kernel), by decide +kernel, by decide⟩
theorem pm_X11_213 : Cond.methodLink RX11 213 yX8_moveCost ∈ ab_tb := ab_at5 55 (by decide +kernel) (by decide +kernel)
theorem pm_X11_221 : Cond.methodLink RX11 221 yJ6_bitCount_0f7a4 ∈ ab_tb := ab_at5 95 (by decide +kernel) (by decide +kernel)
theorem pm_X11_228 : Cond.methodLink RX11 228 yX2_plan ∈ ab_tb := ab_at5 97 (by decide +kernel) (by decide +kernel)
theorem mf_X2_plan : ab_mfV yX2_plan cX2_plan 6 (some .boolean) 3 := ⟨ab_at5 98 (by decide +kernel) (by decide +kernel), ab_at5 99 (by decide +kernel) (by decide +kernel), ab_at1 14 (by decide +kernel) (by decide +kernel), ab_at5 100 (by decide +kernel) (by decide +kernel), by decide +kernel, by decide⟩
theorem pm_X11_232 : Cond.methodLink RX11 232 yX2_targetOf ∈ ab_tb := ab_at5 109 (by decide +kernel) (by decide +kernel)
theorem mf_X2_targetOf : ab_mfV yX2_targetOf cX2_targetOf 3 (some .int) 1 := ⟨ab_at5 110 (by decide +kernel) (by decide +kernel), ab_at5 111 (by decide +kernel) (by decide +kernel), ab_at1 14 (by decide +kernel) (by decide +kernel), ab_at5 112 (by decide +kernel) (by decide +kernel), by decide +kernel, by decide⟩
theorem xk_X11_216_220 : ab_lkX RX11 216 220 1 ["java/lang/RuntimeException", "java/lang/Exception"] := ⟨by decide, by decide, by decide +kernel, by decide +kernel, ab_at5 79 (by decide +kernel) (by decide +kernel), ab_at1 27 (by decide +kernel) (by decide +kernel), by decide +kernel, by decide +kernel, by decide +kernel⟩
theorem pm_X11_240 : Cond.methodLink RX11 240 yX8_nextHour ∈ ab_tb := ab_at5 122 (by decide +kernel) (by decide +kernel)
theorem mf_X8_nextHour : ab_mfV yX8_nextHour cX8_nextHour 3 (some .int) 1 := ⟨ab_at5 123 (by decide +kernel) (by decide +kernel), ab_at5 124 (by decide +kernel) (by decide +kernel), ab_at1 8 (by decide +kernel) (by decide +kernel), ab_at5 125 (by decide +kernel) (by decide +kernel), by decide +kernel, by decide⟩
theorem pm_X11_237 : Cond.methodLink RX11 237 yX8_copyFrom ∈ ab_tb := ab_at5 121 (by decide +kernel) (by decide +kernel)
theorem pm_X11_249 : Cond.methodLink RX11 249 yX0_charge ∈ ab_tb := ab_at5 190 (by decide +kernel) (by decide +kernel)
theorem mf_X0_charge : ab_mfV yX0_charge cX0_charge 3 none 1 := ⟨ab_at5 191 (by decide +kernel) (by decide +kernel), ab_at5 192 (by decide +kernel) (by decide +kernel), ab_at1 10 (by decide +kernel) (by decide +kernel), ab_at5 193 (by decide +kernel) (by decide +kernel), by decide +kernel, by decide⟩
theorem pm_X11_246 : Cond.methodLink RX11 246 yX4_remember ∈ ab_tb := ab_at5 185 (by decide +kernel) (by decide +kernel)
theorem mf_X4_remember : ab_mfV yX4_remember cX4_remember 2 none 1 := ⟨ab_at5 186 (by decide +kernel) (by decide +kernel), ab_at5 187 (by decide +kernel) (by decide +kernel), ab_at1 9 (by decide +kernel) (by decide +kernel), ab_at5 188 (by decide +kernel) (by decide +kernel), by decide +kernel, by decide⟩
theorem pm_X11_252 : Cond.methodLink RX11 252 yX11_needBudget ∈ ab_tb := ab_at5 205 (by decide +kernel) (by decide +kernel)
theorem mf_X11_needBudget : ab_mfV yX11_needBudget cX11_needBudget 2 none 1 := ⟨ab_at5 207 (by decide +kernel) (by decide +kernel), ab_at0 31 (by decide +kernel) (by decide +kernel), ab_at1 1 (by decide +kernel) (by decide +kernel), ab_at5 208 (by decide +kernel) (by decide +kernel), by decide +kernel, by decide⟩
theorem pm_X11_255 : Cond.methodLink RX11 255 yX8_isFull ∈ ab_tb := ab_at5 210 (by decide +kernel) (by decide +kernel)
theorem pm_X11_263 : Cond.methodLink RX11 263 yX8_start ∈ ab_tb := ab_at5 213 (by decide +kernel) (by decide +kernel)
theorem pm_X11_269 : Cond.methodLink RX11 269 yX10_isFull ∈ ab_tb := ab_at5 222 (by decide +kernel) (by decide +kernel)
theorem pm_X11_272 : Cond.methodLink RX11 272 yX8_queue ∈ ab_tb := ab_at5 224 (by decide +kernel) (by decide +kernel)
theorem mf_X8_queue : ab_mfV yX8_queue cX8_queue 5 none 3 := ⟨ab_at5 225 (by decide +kernel) (by decide +kernel), ab_at5 226 (by decide +kernel) (by decide +kernel), ab_at1 8 (by decide +kernel) (by decide +kernel), ab_at5 227 (by decide +kernel) (by decide +kernel), by decide +kernel, by decide⟩
theorem pm_X11_276 : Cond.methodLink RX11 276 yX8_dropRequests ∈ ab_tb := ab_at5 236 (by decide +kernel) (by decide +kernel)
theorem mf_X8_dropRequests : ab_mfV yX8_dropRequests cX8_dropRequests 4 (some .int) 1 := ⟨ab_at5 237 (by decide +kernel) (by decide +kernel), ab_at5 238 (by decide +kernel) (by decide +kernel), ab_at1 8 (by decide +kernel) (by decide +kernel), ab_at5 239 (by decide +kernel) (by decide +kernel), by decide +kernel, by decide⟩
theorem pm_X11_279 : Cond.methodLink RX11 279 yX8_end ∈ ab_tb := ab_at6 7 (by decide +kernel) (by decide +kernel)
theorem pm_X11_287 : Cond.methodLink RX11 287 yX8_giveNotice ∈ ab_tb := ab_at6 17 (by decide +kernel) (by decide +kernel)
theorem pm_X11_292 : Cond.methodLink RX11 292 yX8_fits ∈ ab_tb := ab_at6 26 (by decide +kernel) (by decide +kernel)
theorem pm_X11_298 : Cond.methodLink RX11 298 yX8_moveTo ∈ ab_tb := ab_at6 28 (by decide +kernel) (by decide +kernel)
theorem pm_X11_305 : Cond.methodLink RX11 305 yX2_carryOut ∈ ab_tb := ab_at6 43 (by decide +kernel) (by decide +kernel)
theorem mf_X2_carryOut : ab_mfV yX2_carryOut cX2_carryOut 4 none 2 := ⟨ab_at6 44 (by decide +kernel) (by decide +kernel), ab_at6 45 (by decide +kernel) (by decide +kernel), ab_at1 14 (by decide +kernel) (by decide +kernel), ab_at6 46 (by decide +kernel) (by decide +kernel), by decide +kernel, by decide⟩
theorem pm_X11_308 : Cond.methodLink RX11 308 yX4_takeBack ∈ ab_tb := ab_at3 21 (by decide +kernel) (by decide +kernel)
theorem mf_X4_takeBack : ab_mfV yX4_takeBack cX4_takeBack 3 (some .boolean) 1 := ⟨ab_at3 22 (by decide +kernel) (by decide +kernel), ab_at3 23 (by decide +kernel) (by decide +kernel), ab_at1 9 (by decide +kernel) (by decide +kernel), ab_at3 24 (by decide +kernel) (by decide +kernel), by decide +kernel, by decide⟩
theorem lk_X11_312 : ab_lkF RX11 312 4 2 false .int := ⟨RX4, TX4, 5, tyX4, rfl, by decide, fi_X4, tyX4_ok, nmX4, rfl, rfl, Or.inr ⟨"CloudMarket", ab_in2 (List.mem_of_getElem? (i := 16) (by decide +kernel))⟩⟩
theorem pm_X11_313 : Cond.methodLink RX11 313 yX11_needSlot ∈ ab_tb := ab_at6 55 (by decide +kernel) (by decide +kernel)
theorem mf_X11_needSlot : ab_mfV yX11_needSlot cX11_needSlot 2 none 1 := ⟨ab_at6 57 (by decide +kernel) (by decide +kernel), ab_at0 32 (by decide +kernel) (by decide +kernel), ab_at1 1 (by decide +kernel) (by decide +kernel), ab_at6 58 (by decide +kernel) (by decide +kernel), by decide +kernel, by decide⟩
theorem pm_X11_316 : Cond.methodLink RX11 316 yX4_isSaved ∈ ab_tb := ab_at6 60 (by decide +kernel) (by decide +kernel)
theorem pm_X11_319 : Cond.methodLink RX11 319 yX4_save ∈ ab_tb := ab_at6 64 (by decide +kernel) (by decide +kernel)
theorem mf_X4_save : ab_mfV yX4_save cX4_save 3 none 2 := ⟨ab_at6 65 (by decide +kernel) (by decide +kernel), ab_at6 66 (by decide +kernel) (by decide +kernel), ab_at1 9 (by decide +kernel) (by decide +kernel), ab_at6 67 (by decide +kernel) (by decide +kernel), by decide +kernel, by decide⟩
theorem pm_X11_325 : Cond.methodLink RX11 325 yX4_restore ∈ ab_tb := ab_at6 76 (by decide +kernel) (by decide +kernel)
theorem mf_X4_restore : ab_mfV yX4_restore cX4_restore 3 none 2 := ⟨ab_at6 77 (by decide +kernel) (by decide +kernel), ab_at6 78 (by decide +kernel) (by decide +kernel), ab_at1 9 (by decide +kernel) (by decide +kernel), ab_at6 79 (by decide +kernel) (by decide +kernel), by decide +kernel, by decide⟩
theorem pf_X12_32 : Cond.fieldLink RX12 32 (TX12 8).1 (TX12 8).2.1 (TX12 8).2.2.1 ∈ ab_tb := ab_at6 138 (by decide +kernel) (by decide +kernel)
theorem lk_X12_32 : ab_lkF RX12 32 12 8 true (.array .int) := ⟨RX12, TX12, 33, tyX12, rfl, by decide, fi_X12, tyX12_ok, nmX12, rfl, rfl, Or.inl pf_X12_32⟩
theorem pf_X12_29 : Cond.fieldLink RX12 29 (TX12 7).1 (TX12 7).2.1 (TX12 7).2.2.1 ∈ ab_tb := ab_at6 137 (by decide +kernel) (by decide +kernel)
theorem lk_X12_29 : ab_lkF RX12 29 12 7 true (.array .int) := ⟨RX12, TX12, 33, tyX12, rfl, by decide, fi_X12, tyX12_ok, nmX12, rfl, rfl, Or.inl pf_X12_29⟩
theorem pf_X12_13 : Cond.fieldLink RX12 13 (TX12 2).1 (TX12 2).2.1 (TX12 2).2.2.1 ∈ ab_tb := ab_at6 132 (by decide +kernel) (by decide +kernel)
theorem lk_X12_13 : ab_lkF RX12 13 12 2 true (.array .int) := ⟨RX12, TX12, 33, tyX12, rfl, by decide, fi_X12, tyX12_ok, nmX12, rfl, rfl, Or.inl pf_X12_13⟩
theorem pm_X12_90 : Cond.methodLink RX12 90 yX12_emit ∈ ab_tb := ab_at6 91 (by decide +kernel) (by decide +kernel)
theorem mf_X12_emit : ab_mfV yX12_emit cX12_emit 2 (some .boolean) 1 := ⟨ab_at6 93 (by decide +kernel) (by decide +kernel), ab_at0 34 (by decide +kernel) (by decide +kernel), ab_at1 15 (by decide +kernel) (by decide +kernel), ab_at6 94 (by decide +kernel) (by decide +kernel), by decide +kernel, by decide⟩
theorem pm_X12_86 : Cond.methodLink RX12 86 yX12_lifts ∈ ab_tb := ab_at6 99 (by decide +kernel) (by decide +kernel)
theorem mf_X12_lifts : ab_mfS yX12_lifts cX12_lifts 2 none 1 := ⟨ab_at6 100 (by decide +kernel) (by decide +kernel), ab_at1 15 (by decide +kernel) (by decide +kernel), ab_at6 101 (by decide +kernel) (by decide +kernel), by decide +kernel, by decide⟩
theorem pf_X12_17 : Cond.fieldLink RX12 17 (TX12 3).1 (TX12 3).2.1 (TX12 3).2.2.1 ∈ ab_tb := ab_at6 133 (by decide +kernel) (by decide +kernel)
theorem lk_X12_17 : ab_lkF RX12 17 12 3 true (.array .int) := ⟨RX12, TX12, 33, tyX12, rfl, by decide, fi_X12, tyX12_ok, nmX12, rfl, rfl, Or.inl pf_X12_17⟩
theorem pf_X12_20 : Cond.fieldLink RX12 20 (TX12 4).1 (TX12 4).2.1 (TX12 4).2.2.1 ∈ ab_tb := ab_at6 134 (by decide +kernel) (by decide +kernel)
theorem lk_X12_20 : ab_lkF RX12 20 12 4 true (.array .int) := ⟨RX12, TX12, 33, tyX12, rfl, by decide, fi_X12, tyX12_ok, nmX12, rfl, rfl, Or.inl pf_X12_20⟩
theorem pf_X12_23 : Cond.fieldLink RX12 23 (TX12 5).1 (TX12 5).2.1 (TX12 5).2.2.1 ∈ ab_tb := ab_at6 135 (by decide +kernel) (by decide +kernel)
theorem lk_X12_23 : ab_lkF RX12 23 12 5 true (.array .int) := ⟨RX12, TX12, 33, tyX12, rfl, by decide, fi_X12, tyX12_ok, nmX12, rfl, rfl, Or.inl pf_X12_23⟩
theorem pf_X12_26 : Cond.fieldLink RX12 26 (TX12 6).1 (TX12 6).2.1 (TX12 6).2.2.1 ∈ ab_tb := ab_at6 136 (by decide +kernel) (by decide +kernel)
theorem lk_X12_26 : ab_lkF RX12 26 12 6 true (.array .int) := ⟨RX12, TX12, 33, tyX12, rfl, by decide, fi_X12, tyX12_ok, nmX12, rfl, rfl, Or.inl pf_X12_26⟩
theorem pf_X12_7 : Cond.fieldLink RX12 7 (TX12 1).1 (TX12 1).2.1 (TX12 1).2.2.1 ∈ ab_tb := ab_at6 131 (by decide +kernel) (by decide +kernel)
theorem lk_X12_7 : ab_lkF RX12 7 12 1 true (.array .long) := ⟨RX12, TX12, 33, tyX12, rfl, by decide, fi_X12, tyX12_ok, nmX12, rfl, rfl, Or.inl pf_X12_7⟩
theorem pm_X12_238 : Cond.methodLink RX12 238 yX12_of ∈ ab_tb := ab_at6 106 (by decide +kernel) (by decide +kernel)
theorem mf_X12_of : ab_mfS yX12_of cX12_of 2 (some .int) 2 := ⟨ab_at6 107 (by decide +kernel) (by decide +kernel), ab_at1 15 (by decide +kernel) (by decide +kernel), ab_at6 108 (by decide +kernel) (by decide +kernel), by decide +kernel, by decide⟩
theorem pk_X12_256 : Cond.constantLong RX12 256 (-1) ∈ ab_tb := ab_at6 109 (by decide +kernel) (by decide +kernel)
theorem pm_X12_264 : Cond.methodLink RX12 264 yX12_runs ∈ ab_tb := ab_at6 122 (by decide +kernel) (by decide +kernel)
theorem mf_X12_runs : ab_mfV yX12_runs cX12_runs 2 (some .boolean) 1 := ⟨ab_at6 124 (by decide +kernel) (by decide +kernel), ab_at0 40 (by decide +kernel) (by decide +kernel), ab_at1 15 (by decide +kernel) (by decide +kernel), ab_at6 125 (by decide +kernel) (by decide +kernel), by decide +kernel, by decide⟩
theorem pm_X12_242 : Cond.methodLink RX12 242 yX12_its ∈ ab_tb := ab_at6 126 (by decide +kernel) (by decide +kernel)
theorem mf_X12_its : ab_mfV yX12_its cX12_its 3 (some .int) 2 := ⟨ab_at6 128 (by decide +kernel) (by decide +kernel), ab_at0 41 (by decide +kernel) (by decide +kernel), ab_at1 15 (by decide +kernel) (by decide +kernel), ab_at6 129 (by decide +kernel) (by decide +kernel), by decide +kernel, by decide⟩
theorem pm_X12_279 : Cond.methodLink RX12 279 yX12_allCpu ∈ ab_tb := ab_at6 114 (by decide +kernel) (by decide +kernel)
theorem mf_X12_allCpu : ab_mfV yX12_allCpu cX12_allCpu 3 (some .int) 0 := ⟨ab_at6 116 (by decide +kernel) (by decide +kernel), ab_at0 38 (by decide +kernel) (by decide +kernel), ab_at1 15 (by decide +kernel) (by decide +kernel), ab_at6 117 (by decide +kernel) (by decide +kernel), by decide +kernel, by decide⟩
theorem pm_X12_282 : Cond.methodLink RX12 282 yX12_loadCpu ∈ ab_tb := ab_at6 118 (by decide +kernel) (by decide +kernel)
theorem mf_X12_loadCpu : ab_mfV yX12_loadCpu cX12_loadCpu 3 (some .int) 0 := ⟨ab_at6 120 (by decide +kernel) (by decide +kernel), ab_at0 39 (by decide +kernel) (by decide +kernel), ab_at1 15 (by decide +kernel) (by decide +kernel), ab_at6 121 (by decide +kernel) (by decide +kernel), by decide +kernel, by decide⟩
theorem pm_X12_258 : Cond.methodLink RX12 258 yX12_setsPrices ∈ ab_tb := ab_at6 110 (by decide +kernel) (by decide +kernel)
theorem mf_X12_setsPrices : ab_mfV yX12_setsPrices cX12_setsPrices 6 none 0 := ⟨ab_at6 112 (by decide +kernel) (by decide +kernel), ab_at0 37 (by decide +kernel) (by decide +kernel), ab_at1 15 (by decide +kernel) (by decide +kernel), ab_at6 113 (by decide +kernel) (by decide +kernel), by decide +kernel, by decide⟩
theorem pf_X12_261 : Cond.fieldLink RX12 261 (TX12 29).1 (TX12 29).2.1 (TX12 29).2.2.1 ∈ ab_tb := ab_at6 159 (by decide +kernel) (by decide +kernel)
theorem lk_X12_261 : ab_lkF RX12 261 12 29 false .int := ⟨RX12, TX12, 33, tyX12, rfl, by decide, fi_X12, tyX12_ok, nmX12, rfl, rfl, Or.inl pf_X12_261⟩
theorem pf_X12_70 : Cond.fieldLink RX12 70 (TX12 32).1 (TX12 32).2.1 (TX12 32).2.2.1 ∈ ab_tb := ab_at6 162 (by decide +kernel) (by decide +kernel)
theorem lk_X12_70 : ab_lkF RX12 70 12 32 true (.array .boolean) := ⟨RX12, TX12, 33, tyX12, rfl, by decide, fi_X12, tyX12_ok, nmX12, rfl, rfl, Or.inl pf_X12_70⟩
theorem pm_X12_1 : Cond.methodLink RX12 1 Lib.objectInit ∈ ab_tb := ab_at6 86 (by decide +kernel) (by decide +kernel)
theorem pf_X12_35 : Cond.fieldLink RX12 35 (TX12 9).1 (TX12 9).2.1 (TX12 9).2.2.1 ∈ ab_tb := ab_at6 139 (by decide +kernel) (by decide +kernel)
theorem lk_X12_35 : ab_lkF RX12 35 12 9 true (.array .byte) := ⟨RX12, TX12, 33, tyX12, rfl, by decide, fi_X12, tyX12_ok, nmX12, rfl, rfl, Or.inl pf_X12_35⟩
theorem pf_X12_39 : Cond.fieldLink RX12 39 (TX12 17).1 (TX12 17).2.1 (TX12 17).2.2.1 ∈ ab_tb := ab_at6 147 (by decide +kernel) (by decide +kernel)
theorem lk_X12_39 : ab_lkF RX12 39 12 17 false .int := ⟨RX12, TX12, 33, tyX12, rfl, by decide, fi_X12, tyX12_ok, nmX12, rfl, rfl, Or.inl pf_X12_39⟩
theorem pf_X12_43 : Cond.fieldLink RX12 43 (TX12 21).1 (TX12 21).2.1 (TX12 21).2.2.1 ∈ ab_tb := ab_at6 151 (by decide +kernel) (by decide +kernel)
theorem lk_X12_43 : ab_lkF RX12 43 12 21 true (.array .int) := ⟨RX12, TX12, 33, tyX12, rfl, by decide, fi_X12, tyX12_ok, nmX12, rfl, rfl, Or.inl pf_X12_43⟩
theorem pf_X12_46 : Cond.fieldLink RX12 46 (TX12 22).1 (TX12 22).2.1 (TX12 22).2.2.1 ∈ ab_tb := ab_at6 152 (by decide +kernel) (by decide +kernel)
theorem lk_X12_46 : ab_lkF RX12 46 12 22 true (.array .int) := ⟨RX12, TX12, 33, tyX12, rfl, by decide, fi_X12, tyX12_ok, nmX12, rfl, rfl, Or.inl pf_X12_46⟩
theorem pf_X12_49 : Cond.fieldLink RX12 49 (TX12 23).1 (TX12 23).2.1 (TX12 23).2.2.1 ∈ ab_tb := ab_at6 153 (by decide +kernel) (by decide +kernel)
theorem lk_X12_49 : ab_lkF RX12 49 12 23 true (.array .int) := ⟨RX12, TX12, 33, tyX12, rfl, by decide, fi_X12, tyX12_ok, nmX12, rfl, rfl, Or.inl pf_X12_49⟩
theorem pf_X12_52 : Cond.fieldLink RX12 52 (TX12 24).1 (TX12 24).2.1 (TX12 24).2.2.1 ∈ ab_tb := ab_at6 154 (by decide +kernel) (by decide +kernel)
theorem lk_X12_52 : ab_lkF RX12 52 12 24 true (.array .int) := ⟨RX12, TX12, 33, tyX12, rfl, by decide, fi_X12, tyX12_ok, nmX12, rfl, rfl, Or.inl pf_X12_52⟩
theorem pf_X12_55 : Cond.fieldLink RX12 55 (TX12 25).1 (TX12 25).2.1 (TX12 25).2.2.1 ∈ ab_tb := ab_at6 155 (by decide +kernel) (by decide +kernel)
theorem lk_X12_55 : ab_lkF RX12 55 12 25 true (.array .int) := ⟨RX12, TX12, 33, tyX12, rfl, by decide, fi_X12, tyX12_ok, nmX12, rfl, rfl, Or.inl pf_X12_55⟩
theorem pf_X12_58 : Cond.fieldLink RX12 58 (TX12 26).1 (TX12 26).2.1 (TX12 26).2.2.1 ∈ ab_tb := ab_at6 156 (by decide +kernel) (by decide +kernel)
theorem lk_X12_58 : ab_lkF RX12 58 12 26 true (.array .int) := ⟨RX12, TX12, 33, tyX12, rfl, by decide, fi_X12, tyX12_ok, nmX12, rfl, rfl, Or.inl pf_X12_58⟩
theorem pf_X12_61 : Cond.fieldLink RX12 61 (TX12 28).1 (TX12 28).2.1 (TX12 28).2.2.1 ∈ ab_tb := ab_at6 158 (by decide +kernel) (by decide +kernel)
theorem lk_X12_61 : ab_lkF RX12 61 12 28 true (.array .long) := ⟨RX12, TX12, 33, tyX12, rfl, by decide, fi_X12, tyX12_ok, nmX12, rfl, rfl, Or.inl pf_X12_61⟩
theorem pf_X12_64 : Cond.fieldLink RX12 64 (TX12 30).1 (TX12 30).2.1 (TX12 30).2.2.1 ∈ ab_tb := ab_at6 160 (by decide +kernel) (by decide +kernel)
theorem lk_X12_64 : ab_lkF RX12 64 12 30 true (.array .long) := ⟨RX12, TX12, 33, tyX12, rfl, by decide, fi_X12, tyX12_ok, nmX12, rfl, rfl, Or.inl pf_X12_64⟩
theorem pf_X12_67 : Cond.fieldLink RX12 67 (TX12 31).1 (TX12 31).2.1 (TX12 31).2.2.1 ∈ ab_tb := ab_at6 161 (by decide +kernel) (by decide +kernel)
theorem lk_X12_67 : ab_lkF RX12 67 12 31 true (.array .long) := ⟨RX12, TX12, 33, tyX12, rfl, by decide, fi_X12, tyX12_ok, nmX12, rfl, rfl, Or.inl pf_X12_67⟩
theorem pm_X12_74 : Cond.methodLink RX12 74 yX12_clearDraft ∈ ab_tb := ab_at6 87 (by decide +kernel) (by decide +kernel)
theorem mf_X12_clearDraft : ab_mfV yX12_clearDraft cX12_clearDraft 2 none 0 := ⟨ab_at6 89 (by decide +kernel) (by decide +kernel), ab_at0 33 (by decide +kernel) (by decide +kernel), ab_at1 15 (by decide +kernel) (by decide +kernel), ab_at6 90 (by decide +kernel) (by decide +kernel), by decide +kernel, by decide⟩
theorem pm_X12_77 : Cond.methodLink RX12 77 yX12_liftsAll ∈ ab_tb := ab_at6 95 (by decide +kernel) (by decide +kernel)
theorem mf_X12_liftsAll : ab_mfV yX12_liftsAll cX12_liftsAll 1 none 0 := ⟨ab_at6 97 (by decide +kernel) (by decide +kernel), ab_at0 35 (by decide +kernel) (by decide +kernel), ab_at1 15 (by decide +kernel) (by decide +kernel), ab_at6 98 (by decide +kernel) (by decide +kernel), by decide +kernel, by decide⟩
theorem pm_X12_80 : Cond.methodLink RX12 80 yX12_begins ∈ ab_tb := ab_at6 102 (by decide +kernel) (by decide +kernel)
theorem mf_X12_begins : ab_mfV yX12_begins cX12_begins 2 none 0 := ⟨ab_at6 104 (by decide +kernel) (by decide +kernel), ab_at0 36 (by decide +kernel) (by decide +kernel), ab_at1 15 (by decide +kernel) (by decide +kernel), ab_at6 105 (by decide +kernel) (by decide +kernel), by decide +kernel, by decide⟩
theorem pf_X12_83 : Cond.fieldLink RX12 83 (TX12 0).1 (TX12 0).2.1 (TX12 0).2.2.1 ∈ ab_tb := ab_at6 130 (by decide +kernel) (by decide +kernel)
theorem lk_X12_83 : ab_lkF RX12 83 12 0 false .int := ⟨RX12, TX12, 33, tyX12, rfl, by decide, fi_X12, tyX12_ok, nmX12, rfl, rfl, Or.inl pf_X12_83⟩
theorem pf_X12_94 : Cond.fieldLink RX12 94 (TX12 10).1 (TX12 10).2.1 (TX12 10).2.2.1 ∈ ab_tb := ab_at6 140 (by decide +kernel) (by decide +kernel)
theorem lk_X12_94 : ab_lkF RX12 94 12 10 false .int := ⟨RX12, TX12, 33, tyX12, rfl, by decide, fi_X12, tyX12_ok, nmX12, rfl, rfl, Or.inl pf_X12_94⟩
theorem pm_X12_97 : Cond.methodLink RX12 97 yX12_bytesOf ∈ ab_tb := ab_at6 239 (by decide +kernel) (by decide +kernel)
theorem mf_X12_bytesOf : ab_mfV yX12_bytesOf cX12_bytesOf 3 none 1 := ⟨ab_at7 1 (by decide +kernel) (by decide +kernel), ab_at0 42 (by decide +kernel) (by decide +kernel), ab_at1 15 (by decide +kernel) (by decide +kernel), ab_at7 2 (by decide +kernel) (by decide +kernel), by decide +kernel, by decide⟩
theorem pf_X12_101 : Cond.fieldLink RX12 101 (TX12 11).1 (TX12 11).2.1 (TX12 11).2.2.1 ∈ ab_tb := ab_at6 141 (by decide +kernel) (by decide +kernel)
theorem lk_X12_101 : ab_lkF RX12 101 12 11 false .int := ⟨RX12, TX12, 33, tyX12, rfl, by decide, fi_X12, tyX12_ok, nmX12, rfl, rfl, Or.inl pf_X12_101⟩
theorem pf_X12_117 : Cond.fieldLink RX12 117 (TX12 14).1 (TX12 14).2.1 (TX12 14).2.2.1 ∈ ab_tb := ab_at6 144 (by decide +kernel) (by decide +kernel)
theorem lk_X12_117 : ab_lkF RX12 117 12 14 false .int := ⟨RX12, TX12, 33, tyX12, rfl, by decide, fi_X12, tyX12_ok, nmX12, rfl, rfl, Or.inl pf_X12_117⟩
theorem pf_X12_114 : Cond.fieldLink RX12 114 (TX12 15).1 (TX12 15).2.1 (TX12 15).2.2.1 ∈ ab_tb := ab_at6 145 (by decide +kernel) (by decide +kernel)
theorem lk_X12_114 : ab_lkF RX12 114 12 15 false .int := ⟨RX12, TX12, 33, tyX12, rfl, by decide, fi_X12, tyX12_ok, nmX12, rfl, rfl, Or.inl pf_X12_114⟩
theorem pf_X12_104 : Cond.fieldLink RX12 104 (TX12 13).1 (TX12 13).2.1 (TX12 13).2.2.1 ∈ ab_tb := ab_at6 143 (by decide +kernel) (by decide +kernel)
theorem lk_X12_104 : ab_lkF RX12 104 12 13 false .int := ⟨RX12, TX12, 33, tyX12, rfl, by decide, fi_X12, tyX12_ok, nmX12, rfl, rfl, Or.inl pf_X12_104⟩
theorem pm_X12_107 : Cond.methodLink RX12 107 yX12_byteAt ∈ ab_tb := ab_at7 18 (by decide +kernel) (by decide +kernel)
theorem mf_X12_byteAt : ab_mfV yX12_byteAt cX12_byteAt 2 (some .int) 1 := ⟨ab_at7 20 (by decide +kernel) (by decide +kernel), ab_at0 45 (by decide +kernel) (by decide +kernel), ab_at1 15 (by decide +kernel) (by decide +kernel), ab_at7 21 (by decide +kernel) (by decide +kernel), by decide +kernel, by decide⟩
theorem pk_X12_128 : Cond.constantLong RX12 128 48 ∈ ab_tb := ab_at7 24 (by decide +kernel) (by decide +kernel)
theorem pk_X12_130 : Cond.constantLong RX12 130 57 ∈ ab_tb := ab_at7 25 (by decide +kernel) (by decide +kernel)
theorem pm_X12_124 : Cond.methodLink RX12 124 yX12_within ∈ ab_tb := ab_at7 7 (by decide +kernel) (by decide +kernel)
theorem mf_X12_within : ab_mfS yX12_within cX12_within 6 (some .boolean) 3 := ⟨ab_at7 8 (by decide +kernel) (by decide +kernel), ab_at1 15 (by decide +kernel) (by decide +kernel), ab_at7 9 (by decide +kernel) (by decide +kernel), by decide +kernel, by decide⟩
theorem pf_X12_111 : Cond.fieldLink RX12 111 (TX12 12).1 (TX12 12).2.1 (TX12 12).2.2.1 ∈ ab_tb := ab_at6 142 (by decide +kernel) (by decide +kernel)
theorem lk_X12_111 : ab_lkF RX12 111 12 12 false .int := ⟨RX12, TX12, 33, tyX12, rfl, by decide, fi_X12, tyX12_ok, nmX12, rfl, rfl, Or.inl pf_X12_111⟩
theorem pk_X12_120 : Cond.constantLong RX12 120 97 ∈ ab_tb := ab_at7 22 (by decide +kernel) (by decide +kernel)
theorem pk_X12_122 : Cond.constantLong RX12 122 122 ∈ ab_tb := ab_at7 23 (by decide +kernel) (by decide +kernel)
theorem pm_X12_132 : Cond.methodLink RX12 132 yX12_isSign ∈ ab_tb := ab_at7 26 (by decide +kernel) (by decide +kernel)
theorem mf_X12_isSign : ab_mfS yX12_isSign cX12_isSign 1 (some .boolean) 1 := ⟨ab_at7 27 (by decide +kernel) (by decide +kernel), ab_at1 15 (by decide +kernel) (by decide +kernel), ab_at7 28 (by decide +kernel) (by decide +kernel), by decide +kernel, by decide⟩
theorem pm_X12_135 : Cond.methodLink RX12 135 yJ0_length_8abf5 ∈ ab_tb := ab_at7 38 (by decide +kernel) (by decide +kernel)
theorem pm_X12_140 : Cond.methodLink RX12 140 yJ0_charAt_5068e ∈ ab_tb := ab_at7 39 (by decide +kernel) (by decide +kernel)
theorem pf_X12_144 : Cond.fieldLink RX12 144 (TX12 16).1 (TX12 16).2.1 (TX12 16).2.2.1 ∈ ab_tb := ab_at6 146 (by decide +kernel) (by decide +kernel)
theorem lk_X12_144 : ab_lkF RX12 144 12 16 false .int := ⟨RX12, TX12, 33, tyX12, rfl, by decide, fi_X12, tyX12_ok, nmX12, rfl, rfl, Or.inl pf_X12_144⟩
theorem pf_X12_150 : Cond.fieldLink RX12 150 (TX12 18).1 (TX12 18).2.1 (TX12 18).2.2.1 ∈ ab_tb := ab_at6 148 (by decide +kernel) (by decide +kernel)
theorem lk_X12_150 : ab_lkF RX12 150 12 18 false .int := ⟨RX12, TX12, 33, tyX12, rfl, by decide, fi_X12, tyX12_ok, nmX12, rfl, rfl, Or.inl pf_X12_150⟩
theorem pm_X12_153 : Cond.methodLink RX12 153 yX12_advance ∈ ab_tb := ab_at7 14 (by decide +kernel) (by decide +kernel)
theorem mf_X12_advance : ab_mfV yX12_advance cX12_advance 2 none 0 := ⟨ab_at7 16 (by decide +kernel) (by decide +kernel), ab_at0 44 (by decide +kernel) (by decide +kernel), ab_at1 15 (by decide +kernel) (by decide +kernel), ab_at7 17 (by decide +kernel) (by decide +kernel), by decide +kernel, by decide⟩
theorem pm_X12_147 : Cond.methodLink RX12 147 yX12_fails ∈ ab_tb := ab_at7 48 (by decide +kernel) (by decide +kernel)
theorem mf_X12_fails : ab_mfV yX12_fails cX12_fails 2 (some .boolean) 1 := ⟨ab_at7 50 (by decide +kernel) (by decide +kernel), ab_at0 50 (by decide +kernel) (by decide +kernel), ab_at1 15 (by decide +kernel) (by decide +kernel), ab_at7 51 (by decide +kernel) (by decide +kernel), by decide +kernel, by decide⟩
theorem pm_X12_163 : Cond.methodLink RX12 163 yX12_starts ∈ ab_tb := ab_at7 44 (by decide +kernel) (by decide +kernel)
theorem mf_X12_starts : ab_mfV yX12_starts cX12_starts 3 (some .boolean) 2 := ⟨ab_at7 46 (by decide +kernel) (by decide +kernel), ab_at0 49 (by decide +kernel) (by decide +kernel), ab_at1 15 (by decide +kernel) (by decide +kernel), ab_at7 47 (by decide +kernel) (by decide +kernel), by decide +kernel, by decide⟩
theorem pf_X12_156 : Cond.fieldLink RX12 156 (TX12 19).1 (TX12 19).2.1 (TX12 19).2.2.1 ∈ ab_tb := ab_at6 149 (by decide +kernel) (by decide +kernel)
theorem lk_X12_156 : ab_lkF RX12 156 12 19 false .int := ⟨RX12, TX12, 33, tyX12, rfl, by decide, fi_X12, tyX12_ok, nmX12, rfl, rfl, Or.inl pf_X12_156⟩
theorem pm_X12_159 : Cond.methodLink RX12 159 yX12_has ∈ ab_tb := ab_at7 76 (by decide +kernel) (by decide +kernel)
theorem mf_X12_has : ab_mfS yX12_has cX12_has 2 (some .boolean) 2 := ⟨ab_at7 77 (by decide +kernel) (by decide +kernel), ab_at1 15 (by decide +kernel) (by decide +kernel), ab_at7 78 (by decide +kernel) (by decide +kernel), by decide +kernel, by decide⟩
theorem pm_X12_167 : Cond.methodLink RX12 167 yX12_takes ∈ ab_tb := ab_at7 56 (by decide +kernel) (by decide +kernel)
theorem mf_X12_takes : ab_mfV yX12_takes cX12_takes 3 (some .boolean) 2 := ⟨ab_at7 58 (by decide +kernel) (by decide +kernel), ab_at0 52 (by decide +kernel) (by decide +kernel), ab_at1 15 (by decide +kernel) (by decide +kernel), ab_at7 59 (by decide +kernel) (by decide +kernel), by decide +kernel, by decide⟩
theorem pm_X12_170 : Cond.methodLink RX12 170 yX12_isSignHere ∈ ab_tb := ab_at7 98 (by decide +kernel) (by decide +kernel)
theorem mf_X12_isSignHere : ab_mfV yX12_isSignHere cX12_isSignHere 2 (some .boolean) 1 := ⟨ab_at7 100 (by decide +kernel) (by decide +kernel), ab_at0 60 (by decide +kernel) (by decide +kernel), ab_at1 15 (by decide +kernel) (by decide +kernel), ab_at7 101 (by decide +kernel) (by decide +kernel), by decide +kernel, by decide⟩
theorem pm_X12_173 : Cond.methodLink RX12 173 yX12_lays ∈ ab_tb := ab_at7 52 (by decide +kernel) (by decide +kernel)
theorem mf_X12_lays : ab_mfV yX12_lays cX12_lays 5 (some .boolean) 4 := ⟨ab_at7 54 (by decide +kernel) (by decide +kernel), ab_at0 51 (by decide +kernel) (by decide +kernel), ab_at1 15 (by decide +kernel) (by decide +kernel), ab_at7 55 (by decide +kernel) (by decide +kernel), by decide +kernel, by decide⟩
theorem pm_X12_179 : Cond.methodLink RX12 179 yX12_isWord ∈ ab_tb := ab_at7 34 (by decide +kernel) (by decide +kernel)
theorem mf_X12_isWord : ab_mfV yX12_isWord cX12_isWord 4 (some .boolean) 1 := ⟨ab_at7 36 (by decide +kernel) (by decide +kernel), ab_at0 47 (by decide +kernel) (by decide +kernel), ab_at1 15 (by decide +kernel) (by decide +kernel), ab_at7 37 (by decide +kernel) (by decide +kernel), by decide +kernel, by decide⟩
theorem pf_X12_213 : Cond.fieldLink RX12 213 (TX12 20).1 (TX12 20).2.1 (TX12 20).2.2.1 ∈ ab_tb := ab_at6 150 (by decide +kernel) (by decide +kernel)
theorem lk_X12_213 : ab_lkF RX12 213 12 20 false .int := ⟨RX12, TX12, 33, tyX12, rfl, by decide, fi_X12, tyX12_ok, nmX12, rfl, rfl, Or.inl pf_X12_213⟩
theorem pm_X12_216 : Cond.methodLink RX12 216 yX12_sum ∈ ab_tb := ab_at7 86 (by decide +kernel) (by decide +kernel)
theorem mf_X12_sum : ab_mfV yX12_sum cX12_sum 2 (some .boolean) 0 := ⟨ab_at7 88 (by decide +kernel) (by decide +kernel), ab_at0 57 (by decide +kernel) (by decide +kernel), ab_at1 15 (by decide +kernel) (by decide +kernel), ab_at7 89 (by decide +kernel) (by decide +kernel), by decide +kernel, by decide⟩
theorem pm_X12_232 : Cond.methodLink RX12 232 yX12_closes ∈ ab_tb := ab_at7 102 (by decide +kernel) (by decide +kernel)
theorem mf_X12_closes : ab_mfV yX12_closes cX12_closes 2 (some .boolean) 1 := ⟨ab_at7 104 (by decide +kernel) (by decide +kernel), ab_at0 61 (by decide +kernel) (by decide +kernel), ab_at1 15 (by decide +kernel) (by decide +kernel), ab_at7 105 (by decide +kernel) (by decide +kernel), by decide +kernel, by decide⟩
theorem pm_X12_235 : Cond.methodLink RX12 235 yX12_nameHere ∈ ab_tb := ab_at7 106 (by decide +kernel) (by decide +kernel)
theorem mf_X12_nameHere : ab_mfV yX12_nameHere cX12_nameHere 1 (some .int) 0 := ⟨ab_at7 108 (by decide +kernel) (by decide +kernel), ab_at0 62 (by decide +kernel) (by decide +kernel), ab_at1 15 (by decide +kernel) (by decide +kernel), ab_at7 109 (by decide +kernel) (by decide +kernel), by decide +kernel, by decide⟩
theorem pm_X12_220 : Cond.methodLink RX12 220 yX12_term ∈ ab_tb := ab_at7 90 (by decide +kernel) (by decide +kernel)
theorem mf_X12_term : ab_mfV yX12_term cX12_term 2 (some .boolean) 0 := ⟨ab_at7 92 (by decide +kernel) (by decide +kernel), ab_at0 58 (by decide +kernel) (by decide +kernel), ab_at1 15 (by decide +kernel) (by decide +kernel), ab_at7 93 (by decide +kernel) (by decide +kernel), by decide +kernel, by decide⟩
theorem pm_X12_223 : Cond.methodLink RX12 223 yX12_factor ∈ ab_tb := ab_at7 94 (by decide +kernel) (by decide +kernel)
theorem mf_X12_factor : ab_mfV yX12_factor cX12_factor 2 (some .boolean) 0 := ⟨ab_at7 96 (by decide +kernel) (by decide +kernel), ab_at0 59 (by decide +kernel) (by decide +kernel), ab_at1 15 (by decide +kernel) (by decide +kernel), ab_at7 97 (by decide +kernel) (by decide +kernel), by decide +kernel, by decide⟩
theorem pm_X12_200 : Cond.methodLink RX12 200 yX12_once ∈ ab_tb := ab_at7 72 (by decide +kernel) (by decide +kernel)
theorem mf_X12_once : ab_mfV yX12_once cX12_once 2 (some .boolean) 1 := ⟨ab_at7 74 (by decide +kernel) (by decide +kernel), ab_at0 55 (by decide +kernel) (by decide +kernel), ab_at1 15 (by decide +kernel) (by decide +kernel), ab_at7 75 (by decide +kernel) (by decide +kernel), by decide +kernel, by decide⟩
theorem pm_X12_203 : Cond.methodLink RX12 203 yX12_sets ∈ ab_tb := ab_at7 79 (by decide +kernel) (by decide +kernel)
theorem mf_X12_sets : ab_mfV yX12_sets cX12_sets 4 (some .boolean) 3 := ⟨ab_at7 81 (by decide +kernel) (by decide +kernel), ab_at0 56 (by decide +kernel) (by decide +kernel), ab_at1 15 (by decide +kernel) (by decide +kernel), ab_at7 82 (by decide +kernel) (by decide +kernel), by decide +kernel, by decide⟩
theorem pm_X12_183 : Cond.methodLink RX12 183 yX12_oneMore ∈ ab_tb := ab_at7 40 (by decide +kernel) (by decide +kernel)
theorem mf_X12_oneMore : ab_mfV yX12_oneMore cX12_oneMore 3 (some .boolean) 2 := ⟨ab_at7 42 (by decide +kernel) (by decide +kernel), ab_at0 48 (by decide +kernel) (by decide +kernel), ab_at1 15 (by decide +kernel) (by decide +kernel), ab_at7 43 (by decide +kernel) (by decide +kernel), by decide +kernel, by decide⟩
theorem pm_X12_195 : Cond.methodLink RX12 195 yX12_reserveLine ∈ ab_tb := ab_at7 67 (by decide +kernel) (by decide +kernel)
theorem mf_X12_reserveLine : ab_mfV yX12_reserveLine cX12_reserveLine 2 (some .boolean) 1 := ⟨ab_at7 69 (by decide +kernel) (by decide +kernel), ab_at0 54 (by decide +kernel) (by decide +kernel), ab_at1 15 (by decide +kernel) (by decide +kernel), ab_at7 70 (by decide +kernel) (by decide +kernel), by decide +kernel, by decide⟩
theorem pm_X12_186 : Cond.methodLink RX12 186 yX12_counts ∈ ab_tb := ab_at7 60 (by decide +kernel) (by decide +kernel)
theorem mf_X12_counts : ab_mfV yX12_counts cX12_counts 2 (some .boolean) 1 := ⟨ab_at7 62 (by decide +kernel) (by decide +kernel), ab_at0 53 (by decide +kernel) (by decide +kernel), ab_at1 15 (by decide +kernel) (by decide +kernel), ab_at7 63 (by decide +kernel) (by decide +kernel), by decide +kernel, by decide⟩
theorem pm_X12_245 : Cond.methodLink RX12 245 yX12_joined ∈ ab_tb := ab_at8 67 (by decide +kernel) (by decide +kernel)
theorem mf_X12_joined : ab_mfS yX12_joined cX12_joined 3 (some .int) 3 := ⟨ab_at8 68 (by decide +kernel) (by decide +kernel), ab_at1 15 (by decide +kernel) (by decide +kernel), ab_at8 69 (by decide +kernel) (by decide +kernel), by decide +kernel, by decide⟩
theorem pm_X12_253 : Cond.methodLink RX12 253 yX12_statement ∈ ab_tb := ab_at7 29 (by decide +kernel) (by decide +kernel)
theorem mf_X12_statement : ab_mfV yX12_statement cX12_statement 2 (some .boolean) 0 := ⟨ab_at7 31 (by decide +kernel) (by decide +kernel), ab_at0 46 (by decide +kernel) (by decide +kernel), ab_at1 15 (by decide +kernel) (by decide +kernel), ab_at7 32 (by decide +kernel) (by decide +kernel), by decide +kernel, by decide⟩
theorem pm_X12_249 : Cond.methodLink RX12 249 yX12_throwsIf ∈ ab_tb := ab_at7 10 (by decide +kernel) (by decide +kernel)
theorem mf_X12_throwsIf : ab_mfV yX12_throwsIf cX12_throwsIf 3 (some .boolean) 2 := ⟨ab_at7 12 (by decide +kernel) (by decide +kernel), ab_at0 43 (by decide +kernel) (by decide +kernel), ab_at1 15 (by decide +kernel) (by decide +kernel), ab_at7 13 (by decide +kernel) (by decide +kernel), by decide +kernel, by decide⟩
theorem pm_X12_267 : Cond.methodLink RX12 267 yX12_isOn ∈ ab_tb := ab_at7 142 (by decide +kernel) (by decide +kernel)
theorem mf_X12_isOn : ab_mfV yX12_isOn cX12_isOn 3 (some .boolean) 2 := ⟨ab_at7 144 (by decide +kernel) (by decide +kernel), ab_at0 66 (by decide +kernel) (by decide +kernel), ab_at1 15 (by decide +kernel) (by decide +kernel), ab_at7 145 (by decide +kernel) (by decide +kernel), by decide +kernel, by decide⟩
theorem pm_X12_270 : Cond.methodLink RX12 270 yX12_freeOf ∈ ab_tb := ab_at7 138 (by decide +kernel) (by decide +kernel)
theorem mf_X12_freeOf : ab_mfV yX12_freeOf cX12_freeOf 5 (some .int) 2 := ⟨ab_at7 140 (by decide +kernel) (by decide +kernel), ab_at0 65 (by decide +kernel) (by decide +kernel), ab_at1 15 (by decide +kernel) (by decide +kernel), ab_at7 141 (by decide +kernel) (by decide +kernel), by decide +kernel, by decide⟩
theorem pm_X12_276 : Cond.methodLink RX12 276 yX12_fits ∈ ab_tb := ab_at7 175 (by decide +kernel) (by decide +kernel)
theorem mf_X12_fits : ab_mfV yX12_fits cX12_fits 3 (some .boolean) 2 := ⟨ab_at7 177 (by decide +kernel) (by decide +kernel), ab_at0 70 (by decide +kernel) (by decide +kernel), ab_at1 15 (by decide +kernel) (by decide +kernel), ab_at7 178 (by decide +kernel) (by decide +kernel), by decide +kernel, by decide⟩
theorem pk_X12_275 : Cond.constant RX12 275 2147483647 ∈ ab_tb := ab_at7 174 (by decide +kernel) (by decide +kernel)
theorem pm_X12_285 : Cond.methodLink RX12 285 yX12_no ∈ ab_tb := ab_at7 134 (by decide +kernel) (by decide +kernel)
theorem mf_X12_no : ab_mfV yX12_no cX12_no 4 (some .boolean) 2 := ⟨ab_at7 136 (by decide +kernel) (by decide +kernel), ab_at0 64 (by decide +kernel) (by decide +kernel), ab_at1 15 (by decide +kernel) (by decide +kernel), ab_at7 137 (by decide +kernel) (by decide +kernel), by decide +kernel, by decide⟩
theorem pm_X12_289 : Cond.methodLink RX12 289 yX12_noHost ∈ ab_tb := ab_at7 130 (by decide +kernel) (by decide +kernel)
theorem mf_X12_noHost : ab_mfV yX12_noHost cX12_noHost 2 (some .boolean) 1 := ⟨ab_at7 132 (by decide +kernel) (by decide +kernel), ab_at0 63 (by decide +kernel) (by decide +kernel), ab_at1 15 (by decide +kernel) (by decide +kernel), ab_at7 133 (by decide +kernel) (by decide +kernel), by decide +kernel, by decide⟩
theorem pm_X12_292 : Cond.methodLink RX12 292 yX12_onHost ∈ ab_tb := ab_at7 150 (by decide +kernel) (by decide +kernel)
theorem mf_X12_onHost : ab_mfV yX12_onHost cX12_onHost 4 (some .int) 1 := ⟨ab_at7 152 (by decide +kernel) (by decide +kernel), ab_at0 67 (by decide +kernel) (by decide +kernel), ab_at1 15 (by decide +kernel) (by decide +kernel), ab_at7 153 (by decide +kernel) (by decide +kernel), by decide +kernel, by decide⟩
theorem pm_X12_295 : Cond.methodLink RX12 295 yX12_noType ∈ ab_tb := ab_at7 162 (by decide +kernel) (by decide +kernel)
theorem mf_X12_noType : ab_mfV yX12_noType cX12_noType 2 (some .boolean) 1 := ⟨ab_at7 164 (by decide +kernel) (by decide +kernel), ab_at0 68 (by decide +kernel) (by decide +kernel), ab_at1 15 (by decide +kernel) (by decide +kernel), ab_at7 165 (by decide +kernel) (by decide +kernel), by decide +kernel, by decide⟩
theorem pm_X12_298 : Cond.methodLink RX12 298 yX12_bestFor ∈ ab_tb := ab_at7 170 (by decide +kernel) (by decide +kernel)
theorem mf_X12_bestFor : ab_mfV yX12_bestFor cX12_bestFor 6 (some .int) 1 := ⟨ab_at7 172 (by decide +kernel) (by decide +kernel), ab_at0 69 (by decide +kernel) (by decide +kernel), ab_at1 15 (by decide +kernel) (by decide +kernel), ab_at7 173 (by decide +kernel) (by decide +kernel), by decide +kernel, by decide⟩
theorem pm_X12_301 : Cond.methodLink RX12 301 yX12_runningOnes ∈ ab_tb := ab_at7 187 (by decide +kernel) (by decide +kernel)
theorem mf_X12_runningOnes : ab_mfV yX12_runningOnes cX12_runningOnes 3 (some .int) 0 := ⟨ab_at7 189 (by decide +kernel) (by decide +kernel), ab_at0 71 (by decide +kernel) (by decide +kernel), ab_at1 15 (by decide +kernel) (by decide +kernel), ab_at7 190 (by decide +kernel) (by decide +kernel), by decide +kernel, by decide⟩
theorem pm_X12_304 : Cond.methodLink RX12 304 yX12_noInstance ∈ ab_tb := ab_at7 195 (by decide +kernel) (by decide +kernel)
theorem mf_X12_noInstance : ab_mfV yX12_noInstance cX12_noInstance 2 (some .boolean) 1 := ⟨ab_at7 197 (by decide +kernel) (by decide +kernel), ab_at0 72 (by decide +kernel) (by decide +kernel), ab_at1 15 (by decide +kernel) (by decide +kernel), ab_at7 198 (by decide +kernel) (by decide +kernel), by decide +kernel, by decide⟩
theorem pm_X12_307 : Cond.methodLink RX12 307 yX12_bidAt ∈ ab_tb := ab_at7 227 (by decide +kernel) (by decide +kernel)
theorem mf_X12_bidAt : ab_mfV yX12_bidAt cX12_bidAt 2 (some .int) 1 := ⟨ab_at7 229 (by decide +kernel) (by decide +kernel), ab_at0 74 (by decide +kernel) (by decide +kernel), ab_at1 15 (by decide +kernel) (by decide +kernel), ab_at7 230 (by decide +kernel) (by decide +kernel), by decide +kernel, by decide⟩
theorem pm_X12_310 : Cond.methodLink RX12 310 yX12_requestAt ∈ ab_tb := ab_at7 223 (by decide +kernel) (by decide +kernel)
theorem mf_X12_requestAt : ab_mfV yX12_requestAt cX12_requestAt 5 (some .int) 1 := ⟨ab_at7 225 (by decide +kernel) (by decide +kernel), ab_at0 73 (by decide +kernel) (by decide +kernel), ab_at1 15 (by decide +kernel) (by decide +kernel), ab_at7 226 (by decide +kernel) (by decide +kernel), by decide +kernel, by decide⟩
theorem pk_X12_313 : Cond.constantLong RX12 313 86 ∈ ab_tb := ab_at8 102 (by decide +kernel) (by decide +kernel)
theorem pk_X12_315 : Cond.constantLong RX12 315 3 ∈ ab_tb := ab_at8 103 (by decide +kernel) (by decide +kernel)
theorem pm_X12_320 : Cond.methodLink RX12 320 yX12_regulars ∈ ab_tb := ab_at8 15 (by decide +kernel) (by decide +kernel)
theorem mf_X12_regulars : ab_mfV yX12_regulars cX12_regulars 5 (some .int) 2 := ⟨ab_at8 17 (by decide +kernel) (by decide +kernel), ab_at0 79 (by decide +kernel) (by decide +kernel), ab_at1 15 (by decide +kernel) (by decide +kernel), ab_at8 18 (by decide +kernel) (by decide +kernel), by decide +kernel, by decide⟩
theorem pm_X12_317 : Cond.methodLink RX12 317 yX12_isActive ∈ ab_tb := ab_at8 7 (by decide +kernel) (by decide +kernel)
theorem mf_X12_isActive : ab_mfV yX12_isActive cX12_isActive 2 (some .boolean) 1 := ⟨ab_at8 9 (by decide +kernel) (by decide +kernel), ab_at0 77 (by decide +kernel) (by decide +kernel), ab_at1 15 (by decide +kernel) (by decide +kernel), ab_at8 10 (by decide +kernel) (by decide +kernel), by decide +kernel, by decide⟩
theorem pm_X12_326 : Cond.methodLink RX12 326 yX12_coveredBy ∈ ab_tb := ab_at8 19 (by decide +kernel) (by decide +kernel)
theorem mf_X12_coveredBy : ab_mfV yX12_coveredBy cX12_coveredBy 5 (some .int) 2 := ⟨ab_at8 21 (by decide +kernel) (by decide +kernel), ab_at0 80 (by decide +kernel) (by decide +kernel), ab_at1 15 (by decide +kernel) (by decide +kernel), ab_at8 22 (by decide +kernel) (by decide +kernel), by decide +kernel, by decide⟩
theorem pm_X12_323 : Cond.methodLink RX12 323 yX12_payment ∈ ab_tb := ab_at8 11 (by decide +kernel) (by decide +kernel)
theorem mf_X12_payment : ab_mfV yX12_payment cX12_payment 2 (some .int) 1 := ⟨ab_at8 13 (by decide +kernel) (by decide +kernel), ab_at0 78 (by decide +kernel) (by decide +kernel), ab_at1 15 (by decide +kernel) (by decide +kernel), ab_at8 14 (by decide +kernel) (by decide +kernel), by decide +kernel, by decide⟩
theorem pm_X12_329 : Cond.methodLink RX12 329 yX12_noTenant ∈ ab_tb := ab_at7 235 (by decide +kernel) (by decide +kernel)
theorem mf_X12_noTenant : ab_mfV yX12_noTenant cX12_noTenant 2 (some .boolean) 1 := ⟨ab_at7 237 (by decide +kernel) (by decide +kernel), ab_at0 75 (by decide +kernel) (by decide +kernel), ab_at1 15 (by decide +kernel) (by decide +kernel), ab_at7 238 (by decide +kernel) (by decide +kernel), by decide +kernel, by decide⟩
theorem pm_X12_332 : Cond.methodLink RX12 332 yX12_billOf ∈ ab_tb := ab_at8 3 (by decide +kernel) (by decide +kernel)
theorem mf_X12_billOf : ab_mfV yX12_billOf cX12_billOf 4 (some .int) 1 := ⟨ab_at8 5 (by decide +kernel) (by decide +kernel), ab_at0 76 (by decide +kernel) (by decide +kernel), ab_at1 15 (by decide +kernel) (by decide +kernel), ab_at8 6 (by decide +kernel) (by decide +kernel), by decide +kernel, by decide⟩
theorem pk_X12_335 : Cond.constantLong RX12 335 100 ∈ ab_tb := ab_at8 35 (by decide +kernel) (by decide +kernel)
theorem pm_X12_337 : Cond.methodLink RX12 337 yX12_isOver ∈ ab_tb := ab_at8 31 (by decide +kernel) (by decide +kernel)
theorem mf_X12_isOver : ab_mfV yX12_isOver cX12_isOver 2 (some .boolean) 1 := ⟨ab_at8 33 (by decide +kernel) (by decide +kernel), ab_at0 81 (by decide +kernel) (by decide +kernel), ab_at1 15 (by decide +kernel) (by decide +kernel), ab_at8 34 (by decide +kernel) (by decide +kernel), by decide +kernel, by decide⟩
theorem pm_X12_340 : Cond.methodLink RX12 340 yX12_addsHost ∈ ab_tb := ab_at8 44 (by decide +kernel) (by decide +kernel)
theorem mf_X12_addsHost : ab_mfV yX12_addsHost cX12_addsHost 7 none 2 := ⟨ab_at8 46 (by decide +kernel) (by decide +kernel), ab_at0 82 (by decide +kernel) (by decide +kernel), ab_at1 15 (by decide +kernel) (by decide +kernel), ab_at8 47 (by decide +kernel) (by decide +kernel), by decide +kernel, by decide⟩
theorem pm_X12_347 : Cond.methodLink RX12 347 yX12_bits ∈ ab_tb := ab_at8 56 (by decide +kernel) (by decide +kernel)
theorem mf_X12_bits : ab_mfS yX12_bits cX12_bits 3 (some .int) 1 := ⟨ab_at8 57 (by decide +kernel) (by decide +kernel), ab_at1 15 (by decide +kernel) (by decide +kernel), ab_at8 58 (by decide +kernel) (by decide +kernel), by decide +kernel, by decide⟩
theorem pm_X12_344 : Cond.methodLink RX12 344 yX12_bidsWithout ∈ ab_tb := ab_at8 52 (by decide +kernel) (by decide +kernel)
theorem mf_X12_bidsWithout : ab_mfV yX12_bidsWithout cX12_bidsWithout 8 (some .int) 3 := ⟨ab_at8 54 (by decide +kernel) (by decide +kernel), ab_at0 83 (by decide +kernel) (by decide +kernel), ab_at1 15 (by decide +kernel) (by decide +kernel), ab_at8 55 (by decide +kernel) (by decide +kernel), by decide +kernel, by decide⟩
theorem pm_X12_350 : Cond.methodLink RX12 350 yX12_costOf ∈ ab_tb := ab_at8 63 (by decide +kernel) (by decide +kernel)
theorem mf_X12_costOf : ab_mfV yX12_costOf cX12_costOf 5 (some .int) 1 := ⟨ab_at8 65 (by decide +kernel) (by decide +kernel), ab_at0 84 (by decide +kernel) (by decide +kernel), ab_at1 15 (by decide +kernel) (by decide +kernel), ab_at8 66 (by decide +kernel) (by decide +kernel), by decide +kernel, by decide⟩
theorem pm_X12_353 : Cond.methodLink RX12 353 yX12_drains ∈ ab_tb := ab_at8 74 (by decide +kernel) (by decide +kernel)
theorem mf_X12_drains : ab_mfV yX12_drains cX12_drains 7 (some .boolean) 3 := ⟨ab_at8 76 (by decide +kernel) (by decide +kernel), ab_at0 85 (by decide +kernel) (by decide +kernel), ab_at1 15 (by decide +kernel) (by decide +kernel), ab_at8 77 (by decide +kernel) (by decide +kernel), by decide +kernel, by decide⟩
theorem pm_X12_362 : Cond.methodLink RX12 362 yX12_beginsOne ∈ ab_tb := ab_at8 94 (by decide +kernel) (by decide +kernel)
theorem mf_X12_beginsOne : ab_mfV yX12_beginsOne cX12_beginsOne 6 (some .int) 4 := ⟨ab_at8 96 (by decide +kernel) (by decide +kernel), ab_at0 88 (by decide +kernel) (by decide +kernel), ab_at1 15 (by decide +kernel) (by decide +kernel), ab_at8 97 (by decide +kernel) (by decide +kernel), by decide +kernel, by decide⟩
theorem pm_X12_366 : Cond.methodLink RX12 366 yX12_dropsRequest ∈ ab_tb := ab_at8 98 (by decide +kernel) (by decide +kernel)
theorem mf_X12_dropsRequest : ab_mfV yX12_dropsRequest cX12_dropsRequest 3 none 1 := ⟨ab_at8 100 (by decide +kernel) (by decide +kernel), ab_at0 89 (by decide +kernel) (by decide +kernel), ab_at1 15 (by decide +kernel) (by decide +kernel), ab_at8 101 (by decide +kernel) (by decide +kernel), by decide +kernel, by decide⟩
theorem pm_X12_359 : Cond.methodLink RX12 359 yX12_beginsRequest ∈ ab_tb := ab_at8 90 (by decide +kernel) (by decide +kernel)
theorem mf_X12_beginsRequest : ab_mfV yX12_beginsRequest cX12_beginsRequest 6 (some .boolean) 1 := ⟨ab_at8 92 (by decide +kernel) (by decide +kernel), ab_at0 87 (by decide +kernel) (by decide +kernel), ab_at1 15 (by decide +kernel) (by decide +kernel), ab_at8 93 (by decide +kernel) (by decide +kernel), by decide +kernel, by decide⟩
theorem pf_X12_356 : Cond.fieldLink RX12 356 (TX12 27).1 (TX12 27).2.1 (TX12 27).2.2.1 ∈ ab_tb := ab_at6 157 (by decide +kernel) (by decide +kernel)
theorem lk_X12_356 : ab_lkF RX12 356 12 27 false .int := ⟨RX12, TX12, 33, tyX12, rfl, by decide, fi_X12, tyX12_ok, nmX12, rfl, rfl, Or.inl pf_X12_356⟩
theorem pm_X12_371 : Cond.methodLink RX12 371 yX12_copies ∈ ab_tb := ab_at8 83 (by decide +kernel) (by decide +kernel)
theorem mf_X12_copies : ab_mfS yX12_copies cX12_copies 6 none 5 := ⟨ab_at8 84 (by decide +kernel) (by decide +kernel), ab_at1 15 (by decide +kernel) (by decide +kernel), ab_at8 85 (by decide +kernel) (by decide +kernel), by decide +kernel, by decide⟩
theorem pm_X12_375 : Cond.methodLink RX12 375 yX12_hour ∈ ab_tb := ab_at8 86 (by decide +kernel) (by decide +kernel)
theorem mf_X12_hour : ab_mfV yX12_hour cX12_hour 4 none 0 := ⟨ab_at8 88 (by decide +kernel) (by decide +kernel), ab_at0 86 (by decide +kernel) (by decide +kernel), ab_at1 15 (by decide +kernel) (by decide +kernel), ab_at8 89 (by decide +kernel) (by decide +kernel), by decide +kernel, by decide⟩
theorem pk_X12_369 : Cond.constantLong RX12 369 200 ∈ ab_tb := ab_at8 82 (by decide +kernel) (by decide +kernel)
theorem pm_X12_382 : Cond.methodLink RX12 382 yX12_keeps ∈ ab_tb := ab_at8 114 (by decide +kernel) (by decide +kernel)
theorem mf_X12_keeps : ab_mfV yX12_keeps cX12_keeps 1 none 0 := ⟨ab_at8 116 (by decide +kernel) (by decide +kernel), ab_at0 90 (by decide +kernel) (by decide +kernel), ab_at1 15 (by decide +kernel) (by decide +kernel), ab_at8 117 (by decide +kernel) (by decide +kernel), by decide +kernel, by decide⟩
theorem pk_X12_380 : Cond.constantLong RX12 380 9999 ∈ ab_tb := ab_at8 113 (by decide +kernel) (by decide +kernel)
theorem pk_X12_378 : Cond.constantLong RX12 378 500 ∈ ab_tb := ab_at8 112 (by decide +kernel) (by decide +kernel)
theorem pk_X12_385 : Cond.constantLong RX12 385 10 ∈ ab_tb := ab_at8 126 (by decide +kernel) (by decide +kernel)
theorem pm_X12_387 : Cond.methodLink RX12 387 yX12_moves ∈ ab_tb := ab_at8 143 (by decide +kernel) (by decide +kernel)
theorem mf_X12_moves : ab_mfV yX12_moves cX12_moves 4 (some .int) 2 := ⟨ab_at8 145 (by decide +kernel) (by decide +kernel), ab_at0 91 (by decide +kernel) (by decide +kernel), ab_at1 15 (by decide +kernel) (by decide +kernel), ab_at8 146 (by decide +kernel) (by decide +kernel), by decide +kernel, by decide⟩
theorem pm_X12_390 : Cond.methodLink RX12 390 yX12_noSlot ∈ ab_tb := ab_at8 159 (by decide +kernel) (by decide +kernel)
theorem mf_X12_noSlot : ab_mfV yX12_noSlot cX12_noSlot 2 (some .boolean) 1 := ⟨ab_at8 161 (by decide +kernel) (by decide +kernel), ab_at0 92 (by decide +kernel) (by decide +kernel), ab_at1 15 (by decide +kernel) (by decide +kernel), ab_at8 162 (by decide +kernel) (by decide +kernel), by decide +kernel, by decide⟩
theorem pm_L_7 : Cond.methodLink RL 7 yX11_parse ∈ ab_tb := ab_at3 40 (by decide +kernel) (by decide +kernel)
theorem mf_X11_parse : ab_mfV yX11_parse cX11_parse 3 (some .int) 1 := ⟨ab_at3 41 (by decide +kernel) (by decide +kernel), ab_at3 42 (by decide +kernel) (by decide +kernel), ab_at1 1 (by decide +kernel) (by decide +kernel), ab_at3 43 (by decide +kernel) (by decide +kernel), by decide +kernel, by decide⟩
theorem pc_L_13 : Cond.classLink RL 13 "java/lang/IllegalArgumentException" ∈ ab_tb := ab_at3 39 (by decide +kernel) (by decide +kernel)
theorem pm_L_15 : Cond.methodLink RL 15 yX11_free ∈ ab_tb := ab_at4 57 (by decide +kernel) (by decide +kernel)
theorem mf_X11_free : ab_mfV yX11_free cX11_free 3 (some .int) 2 := ⟨ab_at4 58 (by decide +kernel) (by decide +kernel), ab_at4 59 (by decide +kernel) (by decide +kernel), ab_at1 1 (by decide +kernel) (by decide +kernel), ab_at4 60 (by decide +kernel) (by decide +kernel), by decide +kernel, by decide⟩
theorem pc_L_19 : Cond.classLink RL 19 "java/lang/IndexOutOfBoundsException" ∈ ab_tb := ab_at4 56 (by decide +kernel) (by decide +kernel)
theorem pm_L_21 : Cond.methodLink RL 21 yX11_instancesOn ∈ ab_tb := ab_at4 88 (by decide +kernel) (by decide +kernel)
theorem mf_X11_instancesOn : ab_mfV yX11_instancesOn cX11_instancesOn 2 (some .int) 1 := ⟨ab_at4 89 (by decide +kernel) (by decide +kernel), ab_at4 90 (by decide +kernel) (by decide +kernel), ab_at1 1 (by decide +kernel) (by decide +kernel), ab_at4 91 (by decide +kernel) (by decide +kernel), by decide +kernel, by decide⟩
theorem pm_L_24 : Cond.methodLink RL 24 yX11_spotPrice ∈ ab_tb := ab_at4 99 (by decide +kernel) (by decide +kernel)
theorem mf_X11_spotPrice : ab_mfV yX11_spotPrice cX11_spotPrice 2 (some .int) 1 := ⟨ab_at4 100 (by decide +kernel) (by decide +kernel), ab_at4 101 (by decide +kernel) (by decide +kernel), ab_at1 1 (by decide +kernel) (by decide +kernel), ab_at4 102 (by decide +kernel) (by decide +kernel), by decide +kernel, by decide⟩
theorem pm_L_27 : Cond.methodLink RL 27 yX11_bestHost ∈ ab_tb := ab_at4 106 (by decide +kernel) (by decide +kernel)
theorem mf_X11_bestHost : ab_mfV yX11_bestHost cX11_bestHost 2 (some .int) 1 := ⟨ab_at4 107 (by decide +kernel) (by decide +kernel), ab_at4 108 (by decide +kernel) (by decide +kernel), ab_at1 1 (by decide +kernel) (by decide +kernel), ab_at4 109 (by decide +kernel) (by decide +kernel), by decide +kernel, by decide⟩
theorem pm_L_30 : Cond.methodLink RL 30 yX11_room ∈ ab_tb := ab_at4 122 (by decide +kernel) (by decide +kernel)
theorem mf_X11_room : ab_mfV yX11_room cX11_room 4 (some .int) 1 := ⟨ab_at4 123 (by decide +kernel) (by decide +kernel), ab_at4 124 (by decide +kernel) (by decide +kernel), ab_at1 1 (by decide +kernel) (by decide +kernel), ab_at4 125 (by decide +kernel) (by decide +kernel), by decide +kernel, by decide⟩
theorem pm_L_33 : Cond.methodLink RL 33 yX11_typeOf ∈ ab_tb := ab_at4 133 (by decide +kernel) (by decide +kernel)
theorem mf_X11_typeOf : ab_mfV yX11_typeOf cX11_typeOf 2 (some .int) 1 := ⟨ab_at4 134 (by decide +kernel) (by decide +kernel), ab_at4 135 (by decide +kernel) (by decide +kernel), ab_at1 1 (by decide +kernel) (by decide +kernel), ab_at4 136 (by decide +kernel) (by decide +kernel), by decide +kernel, by decide⟩
theorem pm_L_36 : Cond.methodLink RL 36 yX11_tenantOf ∈ ab_tb := ab_at4 146 (by decide +kernel) (by decide +kernel)
theorem mf_X11_tenantOf : ab_mfV yX11_tenantOf cX11_tenantOf 2 (some .int) 1 := ⟨ab_at4 147 (by decide +kernel) (by decide +kernel), ab_at4 148 (by decide +kernel) (by decide +kernel), ab_at1 1 (by decide +kernel) (by decide +kernel), ab_at4 149 (by decide +kernel) (by decide +kernel), by decide +kernel, by decide⟩
theorem pm_L_39 : Cond.methodLink RL 39 yX11_hostOf ∈ ab_tb := ab_at4 153 (by decide +kernel) (by decide +kernel)
theorem mf_X11_hostOf : ab_mfV yX11_hostOf cX11_hostOf 2 (some .int) 1 := ⟨ab_at4 154 (by decide +kernel) (by decide +kernel), ab_at4 155 (by decide +kernel) (by decide +kernel), ab_at1 1 (by decide +kernel) (by decide +kernel), ab_at4 156 (by decide +kernel) (by decide +kernel), by decide +kernel, by decide⟩
theorem pm_L_42 : Cond.methodLink RL 42 yX11_bidOf ∈ ab_tb := ab_at4 160 (by decide +kernel) (by decide +kernel)
theorem mf_X11_bidOf : ab_mfV yX11_bidOf cX11_bidOf 2 (some .int) 1 := ⟨ab_at4 161 (by decide +kernel) (by decide +kernel), ab_at4 162 (by decide +kernel) (by decide +kernel), ab_at1 1 (by decide +kernel) (by decide +kernel), ab_at4 163 (by decide +kernel) (by decide +kernel), by decide +kernel, by decide⟩
theorem pm_L_45 : Cond.methodLink RL 45 yX11_noticeOf ∈ ab_tb := ab_at4 167 (by decide +kernel) (by decide +kernel)
theorem mf_X11_noticeOf : ab_mfV yX11_noticeOf cX11_noticeOf 2 (some .int) 1 := ⟨ab_at4 168 (by decide +kernel) (by decide +kernel), ab_at4 169 (by decide +kernel) (by decide +kernel), ab_at1 1 (by decide +kernel) (by decide +kernel), ab_at4 170 (by decide +kernel) (by decide +kernel), by decide +kernel, by decide⟩
theorem pm_L_48 : Cond.methodLink RL 48 yX11_spent ∈ ab_tb := ab_at4 174 (by decide +kernel) (by decide +kernel)
theorem mf_X11_spent : ab_mfV yX11_spent cX11_spent 2 (some .long) 1 := ⟨ab_at4 175 (by decide +kernel) (by decide +kernel), ab_at4 176 (by decide +kernel) (by decide +kernel), ab_at1 1 (by decide +kernel) (by decide +kernel), ab_at4 177 (by decide +kernel) (by decide +kernel), by decide +kernel, by decide⟩
theorem pm_L_52 : Cond.methodLink RL 52 yX11_hourlyBill ∈ ab_tb := ab_at4 185 (by decide +kernel) (by decide +kernel)
theorem mf_X11_hourlyBill : ab_mfV yX11_hourlyBill cX11_hourlyBill 2 (some .int) 1 := ⟨ab_at4 186 (by decide +kernel) (by decide +kernel), ab_at4 187 (by decide +kernel) (by decide +kernel), ab_at1 1 (by decide +kernel) (by decide +kernel), ab_at4 188 (by decide +kernel) (by decide +kernel), by decide +kernel, by decide⟩
theorem pm_L_55 : Cond.methodLink RL 55 yX11_covered ∈ ab_tb := ab_at4 216 (by decide +kernel) (by decide +kernel)
theorem mf_X11_covered : ab_mfV yX11_covered cX11_covered 3 (some .int) 2 := ⟨ab_at4 217 (by decide +kernel) (by decide +kernel), ab_at4 218 (by decide +kernel) (by decide +kernel), ab_at1 1 (by decide +kernel) (by decide +kernel), ab_at4 219 (by decide +kernel) (by decide +kernel), by decide +kernel, by decide⟩
theorem pm_L_59 : Cond.methodLink RL 59 yX11_isOverBudget ∈ ab_tb := ab_at4 233 (by decide +kernel) (by decide +kernel)
theorem mf_X11_isOverBudget : ab_mfV yX11_isOverBudget cX11_isOverBudget 2 (some .boolean) 1 := ⟨ab_at4 234 (by decide +kernel) (by decide +kernel), ab_at4 235 (by decide +kernel) (by decide +kernel), ab_at1 1 (by decide +kernel) (by decide +kernel), ab_at4 236 (by decide +kernel) (by decide +kernel), by decide +kernel, by decide⟩
theorem pm_L_63 : Cond.methodLink RL 63 yX11_pays ∈ ab_tb := ab_at5 6 (by decide +kernel) (by decide +kernel)
theorem mf_X11_pays : ab_mfV yX11_pays cX11_pays 5 (some .boolean) 1 := ⟨ab_at5 7 (by decide +kernel) (by decide +kernel), ab_at5 8 (by decide +kernel) (by decide +kernel), ab_at1 1 (by decide +kernel) (by decide +kernel), ab_at5 9 (by decide +kernel) (by decide +kernel), by decide +kernel, by decide⟩
theorem pm_L_66 : Cond.methodLink RL 66 yX11_cheapestEviction ∈ ab_tb := ab_at5 15 (by decide +kernel) (by decide +kernel)
theorem mf_X11_cheapestEviction : ab_mfV yX11_cheapestEviction cX11_cheapestEviction 3 (some .int) 2 := ⟨ab_at5 16 (by decide +kernel) (by decide +kernel), ab_at5 17 (by decide +kernel) (by decide +kernel), ab_at1 1 (by decide +kernel) (by decide +kernel), ab_at5 18 (by decide +kernel) (by decide +kernel), by decide +kernel, by decide⟩
theorem pm_L_69 : Cond.methodLink RL 69 yX11_migrationCost ∈ ab_tb := ab_at5 51 (by decide +kernel) (by decide +kernel)
theorem mf_X11_migrationCost : ab_mfV yX11_migrationCost cX11_migrationCost 2 (some .int) 1 := ⟨ab_at5 52 (by decide +kernel) (by decide +kernel), ab_at5 53 (by decide +kernel) (by decide +kernel), ab_at1 1 (by decide +kernel) (by decide +kernel), ab_at5 54 (by decide +kernel) (by decide +kernel), by decide +kernel, by decide⟩
theorem pm_L_72 : Cond.methodLink RL 72 yX11_drainTo ∈ ab_tb := ab_at5 75 (by decide +kernel) (by decide +kernel)
theorem mf_X11_drainTo : ab_mfV yX11_drainTo cX11_drainTo 3 (some .int) 2 := ⟨ab_at5 76 (by decide +kernel) (by decide +kernel), ab_at5 77 (by decide +kernel) (by decide +kernel), ab_at1 1 (by decide +kernel) (by decide +kernel), ab_at5 78 (by decide +kernel) (by decide +kernel), by decide +kernel, by decide⟩
theorem pc_L_75 : Cond.classLink RL 75 "java/lang/IllegalStateException" ∈ ab_tb := ab_at5 74 (by decide +kernel) (by decide +kernel)
theorem pm_L_77 : Cond.methodLink RL 77 yX11_priceAfter ∈ ab_tb := ab_at5 116 (by decide +kernel) (by decide +kernel)
theorem mf_X11_priceAfter : ab_mfV yX11_priceAfter cX11_priceAfter 4 (some .int) 2 := ⟨ab_at5 117 (by decide +kernel) (by decide +kernel), ab_at5 118 (by decide +kernel) (by decide +kernel), ab_at1 1 (by decide +kernel) (by decide +kernel), ab_at5 119 (by decide +kernel) (by decide +kernel), by decide +kernel, by decide⟩
theorem pm_L_80 : Cond.methodLink RL 80 yX11_evictedAfter ∈ ab_tb := ab_at5 173 (by decide +kernel) (by decide +kernel)
theorem mf_X11_evictedAfter : ab_mfV yX11_evictedAfter cX11_evictedAfter 3 (some .int) 1 := ⟨ab_at5 174 (by decide +kernel) (by decide +kernel), ab_at5 175 (by decide +kernel) (by decide +kernel), ab_at1 1 (by decide +kernel) (by decide +kernel), ab_at5 176 (by decide +kernel) (by decide +kernel), by decide +kernel, by decide⟩
theorem pm_L_83 : Cond.methodLink RL 83 yX11_pass ∈ ab_tb := ab_at5 180 (by decide +kernel) (by decide +kernel)
theorem mf_X11_pass : ab_mfV yX11_pass cX11_pass 4 (some .int) 1 := ⟨ab_at5 181 (by decide +kernel) (by decide +kernel), ab_at5 182 (by decide +kernel) (by decide +kernel), ab_at1 1 (by decide +kernel) (by decide +kernel), ab_at5 183 (by decide +kernel) (by decide +kernel), by decide +kernel, by decide⟩
theorem pm_L_86 : Cond.methodLink RL 86 yX11_launch ∈ ab_tb := ab_at5 201 (by decide +kernel) (by decide +kernel)
theorem mf_X11_launch : ab_mfV yX11_launch cX11_launch 4 (some .int) 2 := ⟨ab_at5 202 (by decide +kernel) (by decide +kernel), ab_at5 203 (by decide +kernel) (by decide +kernel), ab_at1 1 (by decide +kernel) (by decide +kernel), ab_at5 204 (by decide +kernel) (by decide +kernel), by decide +kernel, by decide⟩
theorem pm_L_89 : Cond.methodLink RL 89 yX11_bid ∈ ab_tb := ab_at5 217 (by decide +kernel) (by decide +kernel)
theorem mf_X11_bid : ab_mfV yX11_bid cX11_bid 4 (some .int) 3 := ⟨ab_at5 218 (by decide +kernel) (by decide +kernel), ab_at5 219 (by decide +kernel) (by decide +kernel), ab_at1 1 (by decide +kernel) (by decide +kernel), ab_at5 220 (by decide +kernel) (by decide +kernel), by decide +kernel, by decide⟩
theorem pm_L_93 : Cond.methodLink RL 93 yX11_withdraw ∈ ab_tb := ab_at5 232 (by decide +kernel) (by decide +kernel)
theorem mf_X11_withdraw : ab_mfV yX11_withdraw cX11_withdraw 2 (some .int) 1 := ⟨ab_at5 233 (by decide +kernel) (by decide +kernel), ab_at5 234 (by decide +kernel) (by decide +kernel), ab_at1 1 (by decide +kernel) (by decide +kernel), ab_at5 235 (by decide +kernel) (by decide +kernel), by decide +kernel, by decide⟩
theorem pm_L_96 : Cond.methodLink RL 96 yX11_stop ∈ ab_tb := ab_at6 3 (by decide +kernel) (by decide +kernel)
theorem mf_X11_stop : ab_mfV yX11_stop cX11_stop 3 (some .int) 1 := ⟨ab_at6 4 (by decide +kernel) (by decide +kernel), ab_at6 5 (by decide +kernel) (by decide +kernel), ab_at1 1 (by decide +kernel) (by decide +kernel), ab_at6 6 (by decide +kernel) (by decide +kernel), by decide +kernel, by decide⟩
theorem pm_L_99 : Cond.methodLink RL 99 yX11_evict ∈ ab_tb := ab_at6 11 (by decide +kernel) (by decide +kernel)
theorem mf_X11_evict : ab_mfV yX11_evict cX11_evict 2 (some .int) 1 := ⟨ab_at6 12 (by decide +kernel) (by decide +kernel), ab_at6 13 (by decide +kernel) (by decide +kernel), ab_at1 1 (by decide +kernel) (by decide +kernel), ab_at6 14 (by decide +kernel) (by decide +kernel), by decide +kernel, by decide⟩
theorem pm_L_102 : Cond.methodLink RL 102 yX11_migrate ∈ ab_tb := ab_at6 21 (by decide +kernel) (by decide +kernel)
theorem mf_X11_migrate : ab_mfV yX11_migrate cX11_migrate 3 (some .int) 2 := ⟨ab_at6 22 (by decide +kernel) (by decide +kernel), ab_at6 23 (by decide +kernel) (by decide +kernel), ab_at1 1 (by decide +kernel) (by decide +kernel), ab_at6 24 (by decide +kernel) (by decide +kernel), by decide +kernel, by decide⟩
theorem pm_L_105 : Cond.methodLink RL 105 yX11_drain ∈ ab_tb := ab_at6 37 (by decide +kernel) (by decide +kernel)
theorem mf_X11_drain : ab_mfV yX11_drain cX11_drain 3 (some .int) 1 := ⟨ab_at6 38 (by decide +kernel) (by decide +kernel), ab_at6 39 (by decide +kernel) (by decide +kernel), ab_at1 1 (by decide +kernel) (by decide +kernel), ab_at6 40 (by decide +kernel) (by decide +kernel), by decide +kernel, by decide⟩
theorem pm_L_108 : Cond.methodLink RL 108 yX11_saveSnapshot ∈ ab_tb := ab_at6 51 (by decide +kernel) (by decide +kernel)
theorem mf_X11_saveSnapshot : ab_mfV yX11_saveSnapshot cX11_saveSnapshot 3 (some .boolean) 1 := ⟨ab_at6 52 (by decide +kernel) (by decide +kernel), ab_at6 53 (by decide +kernel) (by decide +kernel), ab_at1 1 (by decide +kernel) (by decide +kernel), ab_at6 54 (by decide +kernel) (by decide +kernel), by decide +kernel, by decide⟩
theorem pm_L_111 : Cond.methodLink RL 111 yX11_restoreSnapshot ∈ ab_tb := ab_at6 71 (by decide +kernel) (by decide +kernel)
theorem mf_X11_restoreSnapshot : ab_mfV yX11_restoreSnapshot cX11_restoreSnapshot 2 (some .int) 1 := ⟨ab_at6 72 (by decide +kernel) (by decide +kernel), ab_at6 73 (by decide +kernel) (by decide +kernel), ab_at1 1 (by decide +kernel) (by decide +kernel), ab_at6 74 (by decide +kernel) (by decide +kernel), by decide +kernel, by decide⟩
theorem pm_L_148 : Cond.methodLink RL 148 yX12_free ∈ ab_tb := ab_at7 126 (by decide +kernel) (by decide +kernel)
theorem mf_X12_free : ab_mfV yX12_free cX12_free 3 (some .int) 2 := ⟨ab_at7 127 (by decide +kernel) (by decide +kernel), ab_at7 128 (by decide +kernel) (by decide +kernel), ab_at1 15 (by decide +kernel) (by decide +kernel), ab_at7 129 (by decide +kernel) (by decide +kernel), by decide +kernel, by decide⟩
theorem pm_L_129 : Cond.methodLink RL 129 yX12_thrown ∈ ab_tb := ab_at6 231 (by decide +kernel) (by decide +kernel)
theorem mf_X12_thrown : ab_mfV yX12_thrown cX12_thrown 1 (some .int) 0 := ⟨ab_at6 232 (by decide +kernel) (by decide +kernel), ab_at6 233 (by decide +kernel) (by decide +kernel), ab_at1 15 (by decide +kernel) (by decide +kernel), ab_at6 234 (by decide +kernel) (by decide +kernel), by decide +kernel, by decide⟩
theorem pm_L_145 : Cond.methodLink RL 145 yL_free ∈ ab_tb := ab_at4 53 (by decide +kernel) (by decide +kernel)
theorem mf_L_free : ab_mfH yL_free cL_free 5 (some .int) [(0, 10, 13, 19)] 4 := ⟨ab_at4 54 (by decide +kernel) (by decide +kernel), ab_at1 0 (by decide +kernel) (by decide +kernel), ab_at4 55 (by decide +kernel) (by decide +kernel), by decide +kernel, by decide⟩
theorem pm_L_118 : Cond.methodLink RL 118 yX11_append ∈ ab_tb := ab_at2 159 (by decide +kernel) (by decide +kernel)
theorem mf_X11_append : ab_mfV yX11_append cX11_append 6 (some .int) 5 := ⟨ab_at2 160 (by decide +kernel) (by decide +kernel), ab_at2 161 (by decide +kernel) (by decide +kernel), ab_at1 1 (by decide +kernel) (by decide +kernel), ab_at2 162 (by decide +kernel) (by decide +kernel), by decide +kernel, by decide⟩
theorem pm_L_122 : Cond.methodLink RL 122 yX12_append ∈ ab_tb := ab_at6 235 (by decide +kernel) (by decide +kernel)
theorem mf_X12_append : ab_mfV yX12_append cX12_append 6 (some .int) 5 := ⟨ab_at6 236 (by decide +kernel) (by decide +kernel), ab_at6 237 (by decide +kernel) (by decide +kernel), ab_at1 15 (by decide +kernel) (by decide +kernel), ab_at6 238 (by decide +kernel) (by decide +kernel), by decide +kernel, by decide⟩
theorem pm_L_123 : Cond.methodLink RL 123 yL_parse ∈ ab_tb := ab_at3 36 (by decide +kernel) (by decide +kernel)
theorem mf_L_parse : ab_mfH yL_parse cL_parse 4 (some .int) [(0, 9, 12, 13)] 3 := ⟨ab_at3 37 (by decide +kernel) (by decide +kernel), ab_at1 0 (by decide +kernel) (by decide +kernel), ab_at3 38 (by decide +kernel) (by decide +kernel), by decide +kernel, by decide⟩
theorem pm_L_128 : Cond.methodLink RL 128 yX12_parse ∈ ab_tb := ab_at7 3 (by decide +kernel) (by decide +kernel)
theorem mf_X12_parse : ab_mfV yX12_parse cX12_parse 3 (some .int) 1 := ⟨ab_at7 4 (by decide +kernel) (by decide +kernel), ab_at7 5 (by decide +kernel) (by decide +kernel), ab_at1 15 (by decide +kernel) (by decide +kernel), ab_at7 6 (by decide +kernel) (by decide +kernel), by decide +kernel, by decide⟩
theorem pm_L_133 : Cond.methodLink RL 133 yX11_errorPosition ∈ ab_tb := ab_at2 167 (by decide +kernel) (by decide +kernel)
theorem mf_X11_errorPosition : ab_mfV yX11_errorPosition cX11_errorPosition 1 (some .int) 0 := ⟨ab_at2 168 (by decide +kernel) (by decide +kernel), ab_at2 169 (by decide +kernel) (by decide +kernel), ab_at1 1 (by decide +kernel) (by decide +kernel), ab_at2 170 (by decide +kernel) (by decide +kernel), by decide +kernel, by decide⟩
theorem pm_L_136 : Cond.methodLink RL 136 yX12_errorPosition ∈ ab_tb := ab_at7 114 (by decide +kernel) (by decide +kernel)
theorem mf_X12_errorPosition : ab_mfV yX12_errorPosition cX12_errorPosition 1 (some .int) 0 := ⟨ab_at7 115 (by decide +kernel) (by decide +kernel), ab_at7 116 (by decide +kernel) (by decide +kernel), ab_at1 15 (by decide +kernel) (by decide +kernel), ab_at7 117 (by decide +kernel) (by decide +kernel), by decide +kernel, by decide⟩
theorem pm_L_137 : Cond.methodLink RL 137 yX11_hostCount ∈ ab_tb := ab_at2 171 (by decide +kernel) (by decide +kernel)
theorem mf_X11_hostCount : ab_mfV yX11_hostCount cX11_hostCount 1 (some .int) 0 := ⟨ab_at2 172 (by decide +kernel) (by decide +kernel), ab_at2 173 (by decide +kernel) (by decide +kernel), ab_at1 1 (by decide +kernel) (by decide +kernel), ab_at2 174 (by decide +kernel) (by decide +kernel), by decide +kernel, by decide⟩
theorem pm_L_140 : Cond.methodLink RL 140 yX12_hostCount ∈ ab_tb := ab_at7 118 (by decide +kernel) (by decide +kernel)
theorem mf_X12_hostCount : ab_mfV yX12_hostCount cX12_hostCount 1 (some .int) 0 := ⟨ab_at7 119 (by decide +kernel) (by decide +kernel), ab_at7 120 (by decide +kernel) (by decide +kernel), ab_at1 15 (by decide +kernel) (by decide +kernel), ab_at7 121 (by decide +kernel) (by decide +kernel), by decide +kernel, by decide⟩
theorem pm_L_141 : Cond.methodLink RL 141 yX11_clock ∈ ab_tb := ab_at2 175 (by decide +kernel) (by decide +kernel)
theorem mf_X11_clock : ab_mfV yX11_clock cX11_clock 1 (some .int) 0 := ⟨ab_at2 176 (by decide +kernel) (by decide +kernel), ab_at2 177 (by decide +kernel) (by decide +kernel), ab_at1 1 (by decide +kernel) (by decide +kernel), ab_at2 178 (by decide +kernel) (by decide +kernel), by decide +kernel, by decide⟩
theorem pm_L_144 : Cond.methodLink RL 144 yX12_clock ∈ ab_tb := ab_at7 122 (by decide +kernel) (by decide +kernel)
theorem mf_X12_clock : ab_mfV yX12_clock cX12_clock 1 (some .int) 0 := ⟨ab_at7 123 (by decide +kernel) (by decide +kernel), ab_at7 124 (by decide +kernel) (by decide +kernel), ab_at1 15 (by decide +kernel) (by decide +kernel), ab_at7 125 (by decide +kernel) (by decide +kernel), by decide +kernel, by decide⟩
theorem pm_L_149 : Cond.methodLink RL 149 yL_instancesOn ∈ ab_tb := ab_at4 85 (by decide +kernel) (by decide +kernel)
theorem mf_L_instancesOn : ab_mfH yL_instancesOn cL_instancesOn 4 (some .int) [(0, 9, 12, 19)] 3 := ⟨ab_at4 86 (by decide +kernel) (by decide +kernel), ab_at1 0 (by decide +kernel) (by decide +kernel), ab_at4 87 (by decide +kernel) (by decide +kernel), by decide +kernel, by decide⟩
theorem pm_L_151 : Cond.methodLink RL 151 yX12_instancesOn ∈ ab_tb := ab_at7 146 (by decide +kernel) (by decide +kernel)
theorem mf_X12_instancesOn : ab_mfV yX12_instancesOn cX12_instancesOn 2 (some .int) 1 := ⟨ab_at7 147 (by decide +kernel) (by decide +kernel), ab_at7 148 (by decide +kernel) (by decide +kernel), ab_at1 15 (by decide +kernel) (by decide +kernel), ab_at7 149 (by decide +kernel) (by decide +kernel), by decide +kernel, by decide⟩
theorem pm_L_152 : Cond.methodLink RL 152 yX11_utilisation ∈ ab_tb := ab_at2 179 (by decide +kernel) (by decide +kernel)
theorem mf_X11_utilisation : ab_mfV yX11_utilisation cX11_utilisation 2 (some .double) 0 := ⟨ab_at2 180 (by decide +kernel) (by decide +kernel), ab_at2 181 (by decide +kernel) (by decide +kernel), ab_at1 1 (by decide +kernel) (by decide +kernel), ab_at2 182 (by decide +kernel) (by decide +kernel), by decide +kernel, by decide⟩
theorem pm_L_156 : Cond.methodLink RL 156 yX12_utilisation ∈ ab_tb := ab_at7 154 (by decide +kernel) (by decide +kernel)
theorem mf_X12_utilisation : ab_mfV yX12_utilisation cX12_utilisation 1 (some .double) 0 := ⟨ab_at7 155 (by decide +kernel) (by decide +kernel), ab_at7 156 (by decide +kernel) (by decide +kernel), ab_at1 15 (by decide +kernel) (by decide +kernel), ab_at7 157 (by decide +kernel) (by decide +kernel), by decide +kernel, by decide⟩
theorem pm_L_157 : Cond.methodLink RL 157 yL_spotPrice ∈ ab_tb := ab_at4 96 (by decide +kernel) (by decide +kernel)
theorem mf_L_spotPrice : ab_mfH yL_spotPrice cL_spotPrice 4 (some .int) [(0, 9, 12, 19)] 3 := ⟨ab_at4 97 (by decide +kernel) (by decide +kernel), ab_at1 0 (by decide +kernel) (by decide +kernel), ab_at4 98 (by decide +kernel) (by decide +kernel), by decide +kernel, by decide⟩
theorem pm_L_159 : Cond.methodLink RL 159 yX12_spotPrice ∈ ab_tb := ab_at7 158 (by decide +kernel) (by decide +kernel)
theorem mf_X12_spotPrice : ab_mfV yX12_spotPrice cX12_spotPrice 2 (some .int) 1 := ⟨ab_at7 159 (by decide +kernel) (by decide +kernel), ab_at7 160 (by decide +kernel) (by decide +kernel), ab_at1 15 (by decide +kernel) (by decide +kernel), ab_at7 161 (by decide +kernel) (by decide +kernel), by decide +kernel, by decide⟩
theorem pm_L_160 : Cond.methodLink RL 160 yL_bestHost ∈ ab_tb := ab_at4 103 (by decide +kernel) (by decide +kernel)
theorem mf_L_bestHost : ab_mfH yL_bestHost cL_bestHost 4 (some .int) [(0, 9, 12, 19)] 3 := ⟨ab_at4 104 (by decide +kernel) (by decide +kernel), ab_at1 0 (by decide +kernel) (by decide +kernel), ab_at4 105 (by decide +kernel) (by decide +kernel), by decide +kernel, by decide⟩
theorem pm_L_162 : Cond.methodLink RL 162 yX12_bestHost ∈ ab_tb := ab_at7 166 (by decide +kernel) (by decide +kernel)
theorem mf_X12_bestHost : ab_mfV yX12_bestHost cX12_bestHost 2 (some .int) 1 := ⟨ab_at7 167 (by decide +kernel) (by decide +kernel), ab_at7 168 (by decide +kernel) (by decide +kernel), ab_at1 15 (by decide +kernel) (by decide +kernel), ab_at7 169 (by decide +kernel) (by decide +kernel), by decide +kernel, by decide⟩
theorem pm_L_163 : Cond.methodLink RL 163 yL_room ∈ ab_tb := ab_at4 119 (by decide +kernel) (by decide +kernel)
theorem mf_L_room : ab_mfH yL_room cL_room 4 (some .int) [(0, 9, 12, 19)] 3 := ⟨ab_at4 120 (by decide +kernel) (by decide +kernel), ab_at1 0 (by decide +kernel) (by decide +kernel), ab_at4 121 (by decide +kernel) (by decide +kernel), by decide +kernel, by decide⟩
theorem pm_L_165 : Cond.methodLink RL 165 yX12_room ∈ ab_tb := ab_at7 179 (by decide +kernel) (by decide +kernel)
theorem mf_X12_room : ab_mfV yX12_room cX12_room 6 (some .int) 1 := ⟨ab_at7 180 (by decide +kernel) (by decide +kernel), ab_at7 181 (by decide +kernel) (by decide +kernel), ab_at1 15 (by decide +kernel) (by decide +kernel), ab_at7 182 (by decide +kernel) (by decide +kernel), by decide +kernel, by decide⟩
theorem pm_L_166 : Cond.methodLink RL 166 yX11_running ∈ ab_tb := ab_at2 191 (by decide +kernel) (by decide +kernel)
theorem mf_X11_running : ab_mfV yX11_running cX11_running 1 (some .int) 0 := ⟨ab_at2 192 (by decide +kernel) (by decide +kernel), ab_at2 193 (by decide +kernel) (by decide +kernel), ab_at1 1 (by decide +kernel) (by decide +kernel), ab_at2 194 (by decide +kernel) (by decide +kernel), by decide +kernel, by decide⟩
theorem pm_L_169 : Cond.methodLink RL 169 yX12_running ∈ ab_tb := ab_at7 183 (by decide +kernel) (by decide +kernel)
theorem mf_X12_running : ab_mfV yX12_running cX12_running 1 (some .int) 0 := ⟨ab_at7 184 (by decide +kernel) (by decide +kernel), ab_at7 185 (by decide +kernel) (by decide +kernel), ab_at1 15 (by decide +kernel) (by decide +kernel), ab_at7 186 (by decide +kernel) (by decide +kernel), by decide +kernel, by decide⟩
theorem pm_L_170 : Cond.methodLink RL 170 yL_typeOf ∈ ab_tb := ab_at4 130 (by decide +kernel) (by decide +kernel)
theorem mf_L_typeOf : ab_mfH yL_typeOf cL_typeOf 4 (some .int) [(0, 9, 12, 19)] 3 := ⟨ab_at4 131 (by decide +kernel) (by decide +kernel), ab_at1 0 (by decide +kernel) (by decide +kernel), ab_at4 132 (by decide +kernel) (by decide +kernel), by decide +kernel, by decide⟩
theorem pm_L_172 : Cond.methodLink RL 172 yX12_typeOf ∈ ab_tb := ab_at7 191 (by decide +kernel) (by decide +kernel)
theorem mf_X12_typeOf : ab_mfV yX12_typeOf cX12_typeOf 2 (some .int) 1 := ⟨ab_at7 192 (by decide +kernel) (by decide +kernel), ab_at7 193 (by decide +kernel) (by decide +kernel), ab_at1 15 (by decide +kernel) (by decide +kernel), ab_at7 194 (by decide +kernel) (by decide +kernel), by decide +kernel, by decide⟩
theorem pm_L_173 : Cond.methodLink RL 173 yL_tenantOf ∈ ab_tb := ab_at4 143 (by decide +kernel) (by decide +kernel)
theorem mf_L_tenantOf : ab_mfH yL_tenantOf cL_tenantOf 4 (some .int) [(0, 9, 12, 19)] 3 := ⟨ab_at4 144 (by decide +kernel) (by decide +kernel), ab_at1 0 (by decide +kernel) (by decide +kernel), ab_at4 145 (by decide +kernel) (by decide +kernel), by decide +kernel, by decide⟩
theorem pm_L_175 : Cond.methodLink RL 175 yX12_tenantOf ∈ ab_tb := ab_at7 199 (by decide +kernel) (by decide +kernel)
theorem mf_X12_tenantOf : ab_mfV yX12_tenantOf cX12_tenantOf 2 (some .int) 1 := ⟨ab_at7 200 (by decide +kernel) (by decide +kernel), ab_at7 201 (by decide +kernel) (by decide +kernel), ab_at1 15 (by decide +kernel) (by decide +kernel), ab_at7 202 (by decide +kernel) (by decide +kernel), by decide +kernel, by decide⟩
theorem pm_L_176 : Cond.methodLink RL 176 yL_hostOf ∈ ab_tb := ab_at4 150 (by decide +kernel) (by decide +kernel)
theorem mf_L_hostOf : ab_mfH yL_hostOf cL_hostOf 4 (some .int) [(0, 9, 12, 19)] 3 := ⟨ab_at4 151 (by decide +kernel) (by decide +kernel), ab_at1 0 (by decide +kernel) (by decide +kernel), ab_at4 152 (by decide +kernel) (by decide +kernel), by decide +kernel, by decide⟩
theorem pm_L_178 : Cond.methodLink RL 178 yX12_hostOf ∈ ab_tb := ab_at7 203 (by decide +kernel) (by decide +kernel)
theorem mf_X12_hostOf : ab_mfV yX12_hostOf cX12_hostOf 2 (some .int) 1 := ⟨ab_at7 204 (by decide +kernel) (by decide +kernel), ab_at7 205 (by decide +kernel) (by decide +kernel), ab_at1 15 (by decide +kernel) (by decide +kernel), ab_at7 206 (by decide +kernel) (by decide +kernel), by decide +kernel, by decide⟩
theorem pm_L_179 : Cond.methodLink RL 179 yL_bidOf ∈ ab_tb := ab_at4 157 (by decide +kernel) (by decide +kernel)
theorem mf_L_bidOf : ab_mfH yL_bidOf cL_bidOf 4 (some .int) [(0, 9, 12, 19)] 3 := ⟨ab_at4 158 (by decide +kernel) (by decide +kernel), ab_at1 0 (by decide +kernel) (by decide +kernel), ab_at4 159 (by decide +kernel) (by decide +kernel), by decide +kernel, by decide⟩
theorem pm_L_181 : Cond.methodLink RL 181 yX12_bidOf ∈ ab_tb := ab_at7 207 (by decide +kernel) (by decide +kernel)
theorem mf_X12_bidOf : ab_mfV yX12_bidOf cX12_bidOf 2 (some .int) 1 := ⟨ab_at7 208 (by decide +kernel) (by decide +kernel), ab_at7 209 (by decide +kernel) (by decide +kernel), ab_at1 15 (by decide +kernel) (by decide +kernel), ab_at7 210 (by decide +kernel) (by decide +kernel), by decide +kernel, by decide⟩
theorem pm_L_182 : Cond.methodLink RL 182 yL_noticeOf ∈ ab_tb := ab_at4 164 (by decide +kernel) (by decide +kernel)
theorem mf_L_noticeOf : ab_mfH yL_noticeOf cL_noticeOf 4 (some .int) [(0, 9, 12, 19)] 3 := ⟨ab_at4 165 (by decide +kernel) (by decide +kernel), ab_at1 0 (by decide +kernel) (by decide +kernel), ab_at4 166 (by decide +kernel) (by decide +kernel), by decide +kernel, by decide⟩
theorem pm_L_184 : Cond.methodLink RL 184 yX12_noticeOf ∈ ab_tb := ab_at7 211 (by decide +kernel) (by decide +kernel)
theorem mf_X12_noticeOf : ab_mfV yX12_noticeOf cX12_noticeOf 2 (some .int) 1 := ⟨ab_at7 212 (by decide +kernel) (by decide +kernel), ab_at7 213 (by decide +kernel) (by decide +kernel), ab_at1 15 (by decide +kernel) (by decide +kernel), ab_at7 214 (by decide +kernel) (by decide +kernel), by decide +kernel, by decide⟩
theorem pm_L_185 : Cond.methodLink RL 185 yX11_waiting ∈ ab_tb := ab_at2 195 (by decide +kernel) (by decide +kernel)
theorem mf_X11_waiting : ab_mfV yX11_waiting cX11_waiting 1 (some .int) 0 := ⟨ab_at2 196 (by decide +kernel) (by decide +kernel), ab_at2 197 (by decide +kernel) (by decide +kernel), ab_at1 1 (by decide +kernel) (by decide +kernel), ab_at2 198 (by decide +kernel) (by decide +kernel), by decide +kernel, by decide⟩
theorem pm_L_188 : Cond.methodLink RL 188 yX12_waiting ∈ ab_tb := ab_at7 215 (by decide +kernel) (by decide +kernel)
theorem mf_X12_waiting : ab_mfV yX12_waiting cX12_waiting 1 (some .int) 0 := ⟨ab_at7 216 (by decide +kernel) (by decide +kernel), ab_at7 217 (by decide +kernel) (by decide +kernel), ab_at1 15 (by decide +kernel) (by decide +kernel), ab_at7 218 (by decide +kernel) (by decide +kernel), by decide +kernel, by decide⟩
theorem pm_L_189 : Cond.methodLink RL 189 yX11_waitingBid ∈ ab_tb := ab_at2 199 (by decide +kernel) (by decide +kernel)
theorem mf_X11_waitingBid : ab_mfV yX11_waitingBid cX11_waitingBid 2 (some .int) 1 := ⟨ab_at2 200 (by decide +kernel) (by decide +kernel), ab_at2 201 (by decide +kernel) (by decide +kernel), ab_at1 1 (by decide +kernel) (by decide +kernel), ab_at2 202 (by decide +kernel) (by decide +kernel), by decide +kernel, by decide⟩
theorem pm_L_192 : Cond.methodLink RL 192 yX12_waitingBid ∈ ab_tb := ab_at7 219 (by decide +kernel) (by decide +kernel)
theorem mf_X12_waitingBid : ab_mfV yX12_waitingBid cX12_waitingBid 3 (some .int) 1 := ⟨ab_at7 220 (by decide +kernel) (by decide +kernel), ab_at7 221 (by decide +kernel) (by decide +kernel), ab_at1 15 (by decide +kernel) (by decide +kernel), ab_at7 222 (by decide +kernel) (by decide +kernel), by decide +kernel, by decide⟩
theorem pm_L_193 : Cond.methodLink RL 193 yL_spent ∈ ab_tb := ab_at4 171 (by decide +kernel) (by decide +kernel)
theorem mf_L_spent : ab_mfH yL_spent cL_spent 4 (some .int) [(0, 8, 11, 19)] 3 := ⟨ab_at4 172 (by decide +kernel) (by decide +kernel), ab_at1 0 (by decide +kernel) (by decide +kernel), ab_at4 173 (by decide +kernel) (by decide +kernel), by decide +kernel, by decide⟩
theorem pm_L_195 : Cond.methodLink RL 195 yX12_spent ∈ ab_tb := ab_at7 231 (by decide +kernel) (by decide +kernel)
theorem mf_X12_spent : ab_mfV yX12_spent cX12_spent 2 (some .long) 1 := ⟨ab_at7 232 (by decide +kernel) (by decide +kernel), ab_at7 233 (by decide +kernel) (by decide +kernel), ab_at1 15 (by decide +kernel) (by decide +kernel), ab_at7 234 (by decide +kernel) (by decide +kernel), by decide +kernel, by decide⟩
theorem pm_L_196 : Cond.methodLink RL 196 yL_hourlyBill ∈ ab_tb := ab_at4 182 (by decide +kernel) (by decide +kernel)
theorem mf_L_hourlyBill : ab_mfH yL_hourlyBill cL_hourlyBill 4 (some .int) [(0, 9, 12, 19)] 3 := ⟨ab_at4 183 (by decide +kernel) (by decide +kernel), ab_at1 0 (by decide +kernel) (by decide +kernel), ab_at4 184 (by decide +kernel) (by decide +kernel), by decide +kernel, by decide⟩
theorem pm_L_198 : Cond.methodLink RL 198 yX12_hourlyBill ∈ ab_tb := ab_at7 239 (by decide +kernel) (by decide +kernel)
theorem mf_X12_hourlyBill : ab_mfV yX12_hourlyBill cX12_hourlyBill 2 (some .int) 1 := ⟨ab_at8 0 (by decide +kernel) (by decide +kernel), ab_at8 1 (by decide +kernel) (by decide +kernel), ab_at1 15 (by decide +kernel) (by decide +kernel), ab_at8 2 (by decide +kernel) (by decide +kernel), by decide +kernel, by decide⟩
theorem pm_L_199 : Cond.methodLink RL 199 yL_covered ∈ ab_tb := ab_at4 213 (by decide +kernel) (by decide +kernel)
theorem mf_L_covered : ab_mfH yL_covered cL_covered 5 (some .int) [(0, 10, 13, 19)] 4 := ⟨ab_at4 214 (by decide +kernel) (by decide +kernel), ab_at1 0 (by decide +kernel) (by decide +kernel), ab_at4 215 (by decide +kernel) (by decide +kernel), by decide +kernel, by decide⟩
theorem pm_L_202 : Cond.methodLink RL 202 yX12_covered ∈ ab_tb := ab_at8 23 (by decide +kernel) (by decide +kernel)
theorem mf_X12_covered : ab_mfV yX12_covered cX12_covered 3 (some .int) 2 := ⟨ab_at8 24 (by decide +kernel) (by decide +kernel), ab_at8 25 (by decide +kernel) (by decide +kernel), ab_at1 15 (by decide +kernel) (by decide +kernel), ab_at8 26 (by decide +kernel) (by decide +kernel), by decide +kernel, by decide⟩
theorem pm_L_203 : Cond.methodLink RL 203 yL_isOverBudget ∈ ab_tb := ab_at4 230 (by decide +kernel) (by decide +kernel)
theorem mf_L_isOverBudget : ab_mfH yL_isOverBudget cL_isOverBudget 4 (some .int) [(0, 16, 19, 19)] 3 := ⟨ab_at4 231 (by decide +kernel) (by decide +kernel), ab_at1 0 (by decide +kernel) (by decide +kernel), ab_at4 232 (by decide +kernel) (by decide +kernel), by decide +kernel, by decide⟩
theorem pm_L_205 : Cond.methodLink RL 205 yX12_isOverBudget ∈ ab_tb := ab_at8 27 (by decide +kernel) (by decide +kernel)
theorem mf_X12_isOverBudget : ab_mfV yX12_isOverBudget cX12_isOverBudget 2 (some .boolean) 1 := ⟨ab_at8 28 (by decide +kernel) (by decide +kernel), ab_at8 29 (by decide +kernel) (by decide +kernel), ab_at1 15 (by decide +kernel) (by decide +kernel), ab_at8 30 (by decide +kernel) (by decide +kernel), by decide +kernel, by decide⟩
theorem pm_L_206 : Cond.methodLink RL 206 yL_pays ∈ ab_tb := ab_at5 3 (by decide +kernel) (by decide +kernel)
theorem mf_L_pays : ab_mfH yL_pays cL_pays 4 (some .int) [(0, 16, 19, 19)] 3 := ⟨ab_at5 4 (by decide +kernel) (by decide +kernel), ab_at1 0 (by decide +kernel) (by decide +kernel), ab_at5 5 (by decide +kernel) (by decide +kernel), by decide +kernel, by decide⟩
theorem pm_L_208 : Cond.methodLink RL 208 yX12_pays ∈ ab_tb := ab_at8 36 (by decide +kernel) (by decide +kernel)
theorem mf_X12_pays : ab_mfV yX12_pays cX12_pays 5 (some .boolean) 1 := ⟨ab_at8 37 (by decide +kernel) (by decide +kernel), ab_at8 38 (by decide +kernel) (by decide +kernel), ab_at1 15 (by decide +kernel) (by decide +kernel), ab_at8 39 (by decide +kernel) (by decide +kernel), by decide +kernel, by decide⟩
theorem pm_L_209 : Cond.methodLink RL 209 yX11_fewestHosts ∈ ab_tb := ab_at2 208 (by decide +kernel) (by decide +kernel)
theorem mf_X11_fewestHosts : ab_mfV yX11_fewestHosts cX11_fewestHosts 1 (some .int) 0 := ⟨ab_at2 209 (by decide +kernel) (by decide +kernel), ab_at2 210 (by decide +kernel) (by decide +kernel), ab_at1 1 (by decide +kernel) (by decide +kernel), ab_at2 211 (by decide +kernel) (by decide +kernel), by decide +kernel, by decide⟩
theorem pm_L_212 : Cond.methodLink RL 212 yX12_fewestHosts ∈ ab_tb := ab_at8 40 (by decide +kernel) (by decide +kernel)
theorem mf_X12_fewestHosts : ab_mfV yX12_fewestHosts cX12_fewestHosts 4 (some .int) 0 := ⟨ab_at8 41 (by decide +kernel) (by decide +kernel), ab_at8 42 (by decide +kernel) (by decide +kernel), ab_at1 15 (by decide +kernel) (by decide +kernel), ab_at8 43 (by decide +kernel) (by decide +kernel), by decide +kernel, by decide⟩
theorem pm_L_213 : Cond.methodLink RL 213 yL_cheapestEviction ∈ ab_tb := ab_at5 12 (by decide +kernel) (by decide +kernel)
theorem mf_L_cheapestEviction : ab_mfH yL_cheapestEviction cL_cheapestEviction 5 (some .int) [(0, 10, 13, 19)] 4 := ⟨ab_at5 13 (by decide +kernel) (by decide +kernel), ab_at1 0 (by decide +kernel) (by decide +kernel), ab_at5 14 (by decide +kernel) (by decide +kernel), by decide +kernel, by decide⟩
theorem pm_L_215 : Cond.methodLink RL 215 yX12_cheapestEviction ∈ ab_tb := ab_at8 48 (by decide +kernel) (by decide +kernel)
theorem mf_X12_cheapestEviction : ab_mfV yX12_cheapestEviction cX12_cheapestEviction 8 (some .int) 2 := ⟨ab_at8 49 (by decide +kernel) (by decide +kernel), ab_at8 50 (by decide +kernel) (by decide +kernel), ab_at1 15 (by decide +kernel) (by decide +kernel), ab_at8 51 (by decide +kernel) (by decide +kernel), by decide +kernel, by decide⟩
theorem pm_L_216 : Cond.methodLink RL 216 yL_migrationCost ∈ ab_tb := ab_at5 48 (by decide +kernel) (by decide +kernel)
theorem mf_L_migrationCost : ab_mfH yL_migrationCost cL_migrationCost 4 (some .int) [(0, 9, 12, 19)] 3 := ⟨ab_at5 49 (by decide +kernel) (by decide +kernel), ab_at1 0 (by decide +kernel) (by decide +kernel), ab_at5 50 (by decide +kernel) (by decide +kernel), by decide +kernel, by decide⟩
theorem pm_L_218 : Cond.methodLink RL 218 yX12_migrationCost ∈ ab_tb := ab_at8 59 (by decide +kernel) (by decide +kernel)
theorem mf_X12_migrationCost : ab_mfV yX12_migrationCost cX12_migrationCost 2 (some .int) 1 := ⟨ab_at8 60 (by decide +kernel) (by decide +kernel), ab_at8 61 (by decide +kernel) (by decide +kernel), ab_at1 15 (by decide +kernel) (by decide +kernel), ab_at8 62 (by decide +kernel) (by decide +kernel), by decide +kernel, by decide⟩
theorem pm_L_219 : Cond.methodLink RL 219 yL_drainTo ∈ ab_tb := ab_at5 71 (by decide +kernel) (by decide +kernel)
theorem mf_L_drainTo : ab_mfH yL_drainTo cL_drainTo 5 (some .int) [(0, 10, 13, 19), (0, 10, 17, 75)] 4 := ⟨ab_at5 72 (by decide +kernel) (by decide +kernel), ab_at1 0 (by decide +kernel) (by decide +kernel), ab_at5 73 (by decide +kernel) (by decide +kernel), by decide +kernel, by decide⟩
theorem pm_L_221 : Cond.methodLink RL 221 yX12_drainTo ∈ ab_tb := ab_at8 70 (by decide +kernel) (by decide +kernel)
theorem mf_X12_drainTo : ab_mfV yX12_drainTo cX12_drainTo 4 (some .int) 2 := ⟨ab_at8 71 (by decide +kernel) (by decide +kernel), ab_at8 72 (by decide +kernel) (by decide +kernel), ab_at1 15 (by decide +kernel) (by decide +kernel), ab_at8 73 (by decide +kernel) (by decide +kernel), by decide +kernel, by decide⟩
theorem pm_L_222 : Cond.methodLink RL 222 yL_priceAfter ∈ ab_tb := ab_at5 113 (by decide +kernel) (by decide +kernel)
theorem mf_L_priceAfter : ab_mfH yL_priceAfter cL_priceAfter 5 (some .int) [(0, 10, 13, 19), (0, 10, 17, 13)] 4 := ⟨ab_at5 114 (by decide +kernel) (by decide +kernel), ab_at1 0 (by decide +kernel) (by decide +kernel), ab_at5 115 (by decide +kernel) (by decide +kernel), by decide +kernel, by decide⟩
theorem pm_L_224 : Cond.methodLink RL 224 yX12_priceAfter ∈ ab_tb := ab_at8 78 (by decide +kernel) (by decide +kernel)
theorem mf_X12_priceAfter : ab_mfV yX12_priceAfter cX12_priceAfter 4 (some .int) 2 := ⟨ab_at8 79 (by decide +kernel) (by decide +kernel), ab_at8 80 (by decide +kernel) (by decide +kernel), ab_at1 15 (by decide +kernel) (by decide +kernel), ab_at8 81 (by decide +kernel) (by decide +kernel), by decide +kernel, by decide⟩
theorem pm_L_225 : Cond.methodLink RL 225 yL_evictedAfter ∈ ab_tb := ab_at5 170 (by decide +kernel) (by decide +kernel)
theorem mf_L_evictedAfter : ab_mfH yL_evictedAfter cL_evictedAfter 4 (some .int) [(0, 9, 12, 19)] 3 := ⟨ab_at5 171 (by decide +kernel) (by decide +kernel), ab_at1 0 (by decide +kernel) (by decide +kernel), ab_at5 172 (by decide +kernel) (by decide +kernel), by decide +kernel, by decide⟩
theorem pm_L_227 : Cond.methodLink RL 227 yX12_evictedAfter ∈ ab_tb := ab_at8 104 (by decide +kernel) (by decide +kernel)
theorem mf_X12_evictedAfter : ab_mfV yX12_evictedAfter cX12_evictedAfter 4 (some .int) 1 := ⟨ab_at8 105 (by decide +kernel) (by decide +kernel), ab_at8 106 (by decide +kernel) (by decide +kernel), ab_at1 15 (by decide +kernel) (by decide +kernel), ab_at8 107 (by decide +kernel) (by decide +kernel), by decide +kernel, by decide⟩
theorem pm_L_228 : Cond.methodLink RL 228 yL_pass ∈ ab_tb := ab_at5 177 (by decide +kernel) (by decide +kernel)
theorem mf_L_pass : ab_mfH yL_pass cL_pass 4 (some .int) [(0, 9, 12, 13), (0, 9, 15, 75)] 3 := ⟨ab_at5 178 (by decide +kernel) (by decide +kernel), ab_at1 0 (by decide +kernel) (by decide +kernel), ab_at5 179 (by decide +kernel) (by decide +kernel), by decide +kernel, by decide⟩
theorem pm_L_230 : Cond.methodLink RL 230 yX12_pass ∈ ab_tb := ab_at8 108 (by decide +kernel) (by decide +kernel)
theorem mf_X12_pass : ab_mfV yX12_pass cX12_pass 4 (some .int) 1 := ⟨ab_at8 109 (by decide +kernel) (by decide +kernel), ab_at8 110 (by decide +kernel) (by decide +kernel), ab_at1 15 (by decide +kernel) (by decide +kernel), ab_at8 111 (by decide +kernel) (by decide +kernel), by decide +kernel, by decide⟩
theorem pm_L_231 : Cond.methodLink RL 231 yL_launch ∈ ab_tb := ab_at5 198 (by decide +kernel) (by decide +kernel)
theorem mf_L_launch : ab_mfH yL_launch cL_launch 5 (some .int) [(0, 10, 13, 19), (0, 10, 17, 75)] 4 := ⟨ab_at5 199 (by decide +kernel) (by decide +kernel), ab_at1 0 (by decide +kernel) (by decide +kernel), ab_at5 200 (by decide +kernel) (by decide +kernel), by decide +kernel, by decide⟩
theorem pm_L_233 : Cond.methodLink RL 233 yX12_launch ∈ ab_tb := ab_at8 118 (by decide +kernel) (by decide +kernel)
theorem mf_X12_launch : ab_mfV yX12_launch cX12_launch 3 (some .int) 2 := ⟨ab_at8 119 (by decide +kernel) (by decide +kernel), ab_at8 120 (by decide +kernel) (by decide +kernel), ab_at1 15 (by decide +kernel) (by decide +kernel), ab_at8 121 (by decide +kernel) (by decide +kernel), by decide +kernel, by decide⟩
theorem pm_L_234 : Cond.methodLink RL 234 yL_bid ∈ ab_tb := ab_at5 214 (by decide +kernel) (by decide +kernel)
theorem mf_L_bid : ab_mfH yL_bid cL_bid 6 (some .int) [(0, 12, 15, 19), (0, 12, 19, 13), (0, 12, 23, 75)] 5 := ⟨ab_at5 215 (by decide +kernel) (by decide +kernel), ab_at1 0 (by decide +kernel) (by decide +kernel), ab_at5 216 (by decide +kernel) (by decide +kernel), by decide +kernel, by decide⟩
theorem pm_L_237 : Cond.methodLink RL 237 yX12_bid ∈ ab_tb := ab_at8 122 (by decide +kernel) (by decide +kernel)
theorem mf_X12_bid : ab_mfV yX12_bid cX12_bid 5 (some .int) 3 := ⟨ab_at8 123 (by decide +kernel) (by decide +kernel), ab_at8 124 (by decide +kernel) (by decide +kernel), ab_at1 15 (by decide +kernel) (by decide +kernel), ab_at8 125 (by decide +kernel) (by decide +kernel), by decide +kernel, by decide⟩
theorem pm_L_238 : Cond.methodLink RL 238 yL_withdraw ∈ ab_tb := ab_at5 229 (by decide +kernel) (by decide +kernel)
theorem mf_L_withdraw : ab_mfH yL_withdraw cL_withdraw 4 (some .int) [(0, 9, 12, 19)] 3 := ⟨ab_at5 230 (by decide +kernel) (by decide +kernel), ab_at1 0 (by decide +kernel) (by decide +kernel), ab_at5 231 (by decide +kernel) (by decide +kernel), by decide +kernel, by decide⟩
theorem pm_L_240 : Cond.methodLink RL 240 yX12_withdraw ∈ ab_tb := ab_at8 127 (by decide +kernel) (by decide +kernel)
theorem mf_X12_withdraw : ab_mfV yX12_withdraw cX12_withdraw 4 (some .int) 1 := ⟨ab_at8 128 (by decide +kernel) (by decide +kernel), ab_at8 129 (by decide +kernel) (by decide +kernel), ab_at1 15 (by decide +kernel) (by decide +kernel), ab_at8 130 (by decide +kernel) (by decide +kernel), by decide +kernel, by decide⟩
theorem pm_L_241 : Cond.methodLink RL 241 yL_stop ∈ ab_tb := ab_at6 0 (by decide +kernel) (by decide +kernel)
theorem mf_L_stop : ab_mfH yL_stop cL_stop 4 (some .int) [(0, 9, 12, 19)] 3 := ⟨ab_at6 1 (by decide +kernel) (by decide +kernel), ab_at1 0 (by decide +kernel) (by decide +kernel), ab_at6 2 (by decide +kernel) (by decide +kernel), by decide +kernel, by decide⟩
theorem pm_L_243 : Cond.methodLink RL 243 yX12_stop ∈ ab_tb := ab_at8 131 (by decide +kernel) (by decide +kernel)
theorem mf_X12_stop : ab_mfV yX12_stop cX12_stop 2 (some .int) 1 := ⟨ab_at8 132 (by decide +kernel) (by decide +kernel), ab_at8 133 (by decide +kernel) (by decide +kernel), ab_at1 15 (by decide +kernel) (by decide +kernel), ab_at8 134 (by decide +kernel) (by decide +kernel), by decide +kernel, by decide⟩
theorem pm_L_244 : Cond.methodLink RL 244 yL_evict ∈ ab_tb := ab_at6 8 (by decide +kernel) (by decide +kernel)
theorem mf_L_evict : ab_mfH yL_evict cL_evict 4 (some .int) [(0, 9, 12, 19), (0, 9, 15, 75)] 3 := ⟨ab_at6 9 (by decide +kernel) (by decide +kernel), ab_at1 0 (by decide +kernel) (by decide +kernel), ab_at6 10 (by decide +kernel) (by decide +kernel), by decide +kernel, by decide⟩
theorem pm_L_246 : Cond.methodLink RL 246 yX12_evict ∈ ab_tb := ab_at8 135 (by decide +kernel) (by decide +kernel)
theorem mf_X12_evict : ab_mfV yX12_evict cX12_evict 2 (some .int) 1 := ⟨ab_at8 136 (by decide +kernel) (by decide +kernel), ab_at8 137 (by decide +kernel) (by decide +kernel), ab_at1 15 (by decide +kernel) (by decide +kernel), ab_at8 138 (by decide +kernel) (by decide +kernel), by decide +kernel, by decide⟩
theorem pm_L_247 : Cond.methodLink RL 247 yL_migrate ∈ ab_tb := ab_at6 18 (by decide +kernel) (by decide +kernel)
theorem mf_L_migrate : ab_mfH yL_migrate cL_migrate 5 (some .int) [(0, 10, 13, 19), (0, 10, 17, 75)] 4 := ⟨ab_at6 19 (by decide +kernel) (by decide +kernel), ab_at1 0 (by decide +kernel) (by decide +kernel), ab_at6 20 (by decide +kernel) (by decide +kernel), by decide +kernel, by decide⟩
theorem pm_L_249 : Cond.methodLink RL 249 yX12_migrate ∈ ab_tb := ab_at8 139 (by decide +kernel) (by decide +kernel)
theorem mf_X12_migrate : ab_mfV yX12_migrate cX12_migrate 3 (some .int) 2 := ⟨ab_at8 140 (by decide +kernel) (by decide +kernel), ab_at8 141 (by decide +kernel) (by decide +kernel), ab_at1 15 (by decide +kernel) (by decide +kernel), ab_at8 142 (by decide +kernel) (by decide +kernel), by decide +kernel, by decide⟩
theorem pm_L_250 : Cond.methodLink RL 250 yL_drain ∈ ab_tb := ab_at6 34 (by decide +kernel) (by decide +kernel)
theorem mf_L_drain : ab_mfH yL_drain cL_drain 4 (some .int) [(0, 9, 12, 19), (0, 9, 15, 75)] 3 := ⟨ab_at6 35 (by decide +kernel) (by decide +kernel), ab_at1 0 (by decide +kernel) (by decide +kernel), ab_at6 36 (by decide +kernel) (by decide +kernel), by decide +kernel, by decide⟩
theorem pm_L_252 : Cond.methodLink RL 252 yX12_drain ∈ ab_tb := ab_at8 147 (by decide +kernel) (by decide +kernel)
theorem mf_X12_drain : ab_mfV yX12_drain cX12_drain 4 (some .int) 1 := ⟨ab_at8 148 (by decide +kernel) (by decide +kernel), ab_at8 149 (by decide +kernel) (by decide +kernel), ab_at1 15 (by decide +kernel) (by decide +kernel), ab_at8 150 (by decide +kernel) (by decide +kernel), by decide +kernel, by decide⟩
theorem pm_L_253 : Cond.methodLink RL 253 yX11_undo ∈ ab_tb := ab_at3 17 (by decide +kernel) (by decide +kernel)
theorem mf_X11_undo : ab_mfV yX11_undo cX11_undo 1 (some .int) 0 := ⟨ab_at3 18 (by decide +kernel) (by decide +kernel), ab_at3 19 (by decide +kernel) (by decide +kernel), ab_at1 1 (by decide +kernel) (by decide +kernel), ab_at3 20 (by decide +kernel) (by decide +kernel), by decide +kernel, by decide⟩
theorem pm_L_256 : Cond.methodLink RL 256 yX12_undo ∈ ab_tb := ab_at8 151 (by decide +kernel) (by decide +kernel)
theorem mf_X12_undo : ab_mfV yX12_undo cX12_undo 1 (some .int) 0 := ⟨ab_at8 152 (by decide +kernel) (by decide +kernel), ab_at8 153 (by decide +kernel) (by decide +kernel), ab_at1 15 (by decide +kernel) (by decide +kernel), ab_at8 154 (by decide +kernel) (by decide +kernel), by decide +kernel, by decide⟩
theorem pm_L_257 : Cond.methodLink RL 257 yL_saveSnapshot ∈ ab_tb := ab_at6 48 (by decide +kernel) (by decide +kernel)
theorem mf_L_saveSnapshot : ab_mfH yL_saveSnapshot cL_saveSnapshot 4 (some .int) [(0, 16, 19, 19)] 3 := ⟨ab_at6 49 (by decide +kernel) (by decide +kernel), ab_at1 0 (by decide +kernel) (by decide +kernel), ab_at6 50 (by decide +kernel) (by decide +kernel), by decide +kernel, by decide⟩
theorem pm_L_259 : Cond.methodLink RL 259 yX12_saveSnapshot ∈ ab_tb := ab_at8 155 (by decide +kernel) (by decide +kernel)
theorem mf_X12_saveSnapshot : ab_mfV yX12_saveSnapshot cX12_saveSnapshot 3 (some .boolean) 1 := ⟨ab_at8 156 (by decide +kernel) (by decide +kernel), ab_at8 157 (by decide +kernel) (by decide +kernel), ab_at1 15 (by decide +kernel) (by decide +kernel), ab_at8 158 (by decide +kernel) (by decide +kernel), by decide +kernel, by decide⟩
theorem pm_L_260 : Cond.methodLink RL 260 yL_restoreSnapshot ∈ ab_tb := ab_at6 68 (by decide +kernel) (by decide +kernel)
theorem mf_L_restoreSnapshot : ab_mfH yL_restoreSnapshot cL_restoreSnapshot 4 (some .int) [(0, 9, 12, 19), (0, 9, 15, 75)] 3 := ⟨ab_at6 69 (by decide +kernel) (by decide +kernel), ab_at1 0 (by decide +kernel) (by decide +kernel), ab_at6 70 (by decide +kernel) (by decide +kernel), by decide +kernel, by decide⟩
theorem pm_L_262 : Cond.methodLink RL 262 yX12_restoreSnapshot ∈ ab_tb := ab_at8 163 (by decide +kernel) (by decide +kernel)
theorem mf_X12_restoreSnapshot : ab_mfV yX12_restoreSnapshot cX12_restoreSnapshot 2 (some .int) 1 := ⟨ab_at8 164 (by decide +kernel) (by decide +kernel), ab_at8 165 (by decide +kernel) (by decide +kernel), ab_at1 15 (by decide +kernel) (by decide +kernel), ab_at8 166 (by decide +kernel) (by decide +kernel), by decide +kernel, by decide⟩
theorem nw_L_8 : ab_lkN RL 8 11 [some none, some none, some none, some none, some none, some none, some none, some none, some none] := ⟨RX11, TX11, 9, tyX11, rfl, fi_X11, tyX11_ok, ab_at1 28 (by decide +kernel) (by decide +kernel), ab_at1 29 (by decide +kernel) (by decide +kernel), ab_at1 1 (by decide +kernel) (by decide +kernel), rfl, by decide +kernel⟩
theorem pm_L_114 : Cond.methodLink RL 114 yX11_init ∈ ab_tb := ab_at1 30 (by decide +kernel) (by decide +kernel)
theorem mf_X11_init : ab_mfI yX11_init cX11_init 1 0 := ⟨ab_at1 31 (by decide +kernel) (by decide +kernel), ab_at1 1 (by decide +kernel) (by decide +kernel), ab_at1 32 (by decide +kernel) (by decide +kernel), by decide +kernel, by decide, rfl⟩
theorem nw_L_115 : ab_lkN RL 115 12 [none, some none, some none, some none, some none, some none, some none, some none, some none, some none, none, none, none, none, none, none, none, none, none, none, none, some none, some none, some none, some none, some none, some none, none, some none, none, some none, some none, some none] := ⟨RX12, TX12, 33, tyX12, rfl, fi_X12, tyX12_ok, ab_at6 81 (by decide +kernel) (by decide +kernel), ab_at6 82 (by decide +kernel) (by decide +kernel), ab_at1 15 (by decide +kernel) (by decide +kernel), rfl, by decide +kernel⟩
theorem pm_L_117 : Cond.methodLink RL 117 yX12_init ∈ ab_tb := ab_at6 83 (by decide +kernel) (by decide +kernel)
theorem mf_X12_init : ab_mfI yX12_init cX12_init 1 0 := ⟨ab_at6 84 (by decide +kernel) (by decide +kernel), ab_at1 15 (by decide +kernel) (by decide +kernel), ab_at6 85 (by decide +kernel) (by decide +kernel), by decide +kernel, by decide, rfl⟩
theorem mf_J0_checkIndex_df160 : ab_mfS yJ0_checkIndex_df160 cJ0_checkIndex_df160 2 none 2 := ⟨ab_at3 160 (by decide +kernel) (by decide +kernel), ab_at1 20 (by decide +kernel) (by decide +kernel), ab_at3 161 (by decide +kernel) (by decide +kernel), by decide +kernel, by decide⟩
theorem mf_J3_checkIndex_8e157 : ab_mfS yJ3_checkIndex_8e157 cJ3_checkIndex_8e157 3 (some .int) 3 := ⟨ab_at3 165 (by decide +kernel) (by decide +kernel), ab_at1 22 (by decide +kernel) (by decide +kernel), ab_at3 166 (by decide +kernel) (by decide +kernel), by decide +kernel, by decide⟩
theorem pm_J0_1059 : Cond.methodLink RJ0 1059 yJ3_checkIndex_8e157 ∈ ab_tb := ab_at3 164 (by decide +kernel) (by decide +kernel)
theorem pg_J0_1053 : Cond.fieldLink RJ0 1053 "jdk/internal/util/Preconditions" "SIOOBE_FORMATTER" "Ljava/util/function/BiFunction;" ∈ ab_tb := ab_at3 162 (by decide +kernel) (by decide +kernel)
