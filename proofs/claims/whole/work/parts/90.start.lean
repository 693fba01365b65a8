/-! ===== the law's entry: the abstract world out of the Statement's premises (by program: wip/whole/start.py) ===== -/
theorem st_str {args : Array Value} {s : State} {A : Nat → Prop} {own : String} {k : Nat} {bs : List Int32} (hn : bs.length < 2 ^ 31) (h1 : (Cond.exactly (.string own k) "java/lang/String").before args s = true) (h2 : (Cond.eq (.field (.string own k) "java/lang/String" "coder" "B") (.int 0)).before args s = true) (h3 : (Cond.arrayOf (.field (.string own k) "java/lang/String" "value" "[B") .byte).before args s = true)
    (h4 : (Cond.eq (.length (.field (.string own k) "java/lang/String" "value" "[B")) (.int (Int32.ofNat bs.length))).before args s = true) (h5 : ∀ j : Nat, j < bs.length → (Cond.eq (.elem (.field (.string own k) "java/lang/String" "value" "[B") (.int (Int32.ofNat j))) (.int (bs.getD j 0))).before args s = true) (hA : ∀ a : Nat, a < s.heap.size → ¬ A a) :
    ∃ q : Nat × Nat, (Term.string own k).eval args s none [] s = some (.ref q.1) ∧ va_O "java/lang/String" q.1 A s s.heap ∧ va_OF "java/lang/String" "coder" "B" (.int 0) q.1 A s s.heap ∧ va_OF "java/lang/String" "value" "[B" (.ref q.2) q.1 A s s.heap ∧ va_T .byte q.2 bs.length (fun j => .int (bs.getD j 0)) A s s.heap := by
  obtain ⟨adK, adV, hS, hE⟩ := vk_Sof (args := args) (s := s) (N := 1) (tm := fun _ => .string own k) (len := [bs.length]) (byt := [bs]) (A := A) (fun i hi => by rw [show i = 0 by omega]; exact hn) (fun _ _ => h1) (fun _ _ => h2) (fun _ _ => h3) (fun i hi => by rw [show i = 0 by omega]; exact h4) (fun i hi j hj => by rw [show i = 0 by omega] at hj ⊢; exact h5 j hj) (fun i j hi hj hn => absurd (by omega) hn) hA
  obtain ⟨k1, k2, k3, k4⟩ := hS.1 0 (by omega)
  exact ⟨(adK 0, adV 0), hE 0 (by omega), k1, k2, k3, k4⟩
theorem st_b0 {P : Nat → Prop} {n : Nat} (hn : n = 0) : ∀ j : Nat, j < n → P j := fun j h => by omega
theorem st_bS {P : Nat → Prop} {n : Nat} (h : ∀ j : Nat, j < n → P j) (hn : P n) : ∀ j : Nat, j < n + 1 → P j := fun j hj => by
  rcases Nat.lt_or_ge j n with q | q
  · exact h j q
  · rw [show j = n by omega]; exact hn
def st_P (args : Array Value) (s : State) (A : Nat → Prop) (i : Nat) (q : Nat × Nat) : Prop := (∀ w ∈ ab_wd, w.2.2.2 = i → (Term.string w.1 w.2.1).eval args s none [] s = some (.ref q.1)) ∧ va_O "java/lang/String" q.1 A s s.heap ∧ va_OF "java/lang/String" "coder" "B" (.int 0) q.1 A s s.heap ∧ va_OF "java/lang/String" "value" "[B" (.ref q.2) q.1 A s s.heap ∧ va_T .byte q.2 (ab_by.getD i []).length (fun j => .int ((ab_by.getD i []).getD j 0)) A s s.heap
abbrev st_F : List Cond := flatC (Jvm.Cond.and given_1 narrow_1)
theorem ab_wd_num : ∀ w ∈ ab_wd, ∀ w' ∈ ab_wd, w.2.2.2 = w'.2.2.2 → w = w' := by decide +kernel
theorem ab_wd_one (w : String × Nat × String × Nat) (hw : w ∈ ab_wd) {i : Nat} (hi : w.2.2.2 = i) (j : Nat) (hj : i = j) {w' : String × Nat × String × Nat} (hw' : w' ∈ ab_wd ∧ w'.2.2.2 = j) : w = w' := ab_wd_num w hw w' hw'.1 (by rw [hi, hj, hw'.2])
theorem st_s0 {args : Array Value} {s : State} {A : Nat → Prop} (hF : ∀ w ∈ st_F, w.before args s = true) (hA : ∀ a : Nat, a < s.heap.size → ¬ A a) : ∃ q, st_P args s A 0 q := by
  obtain ⟨q, h1, h2⟩ := st_str (own := "CloudMarket$Reader") (k := 77) (bs := [104, 111, 115, 116]) (by decide) (hF _ (List.mem_of_getElem? (i := 79) (by decide +kernel))) (hF _ (List.mem_of_getElem? (i := 80) (by decide +kernel))) (hF _ (List.mem_of_getElem? (i := 81) (by decide +kernel))) (hF _ (List.mem_of_getElem? (i := 82) (by decide +kernel))) (st_bS (st_bS (st_bS (st_bS (st_b0 rfl) (hF _ (List.mem_of_getElem? (i := 83) (by decide +kernel)))) (hF _ (List.mem_of_getElem? (i := 84) (by decide +kernel)))) (hF _ (List.mem_of_getElem? (i := 85) (by decide +kernel)))) (hF _ (List.mem_of_getElem? (i := 86) (by decide +kernel)))) hA
  refine ⟨q, fun w hw hi => ?_, h2⟩
  have e : w = ("CloudMarket$Reader", 77, "host", 0) := ab_wd_one w hw hi 0 (by decide) (by decide +kernel)
  rw [e]
  exact h1
theorem st_s1 {args : Array Value} {s : State} {A : Nat → Prop} (hF : ∀ w ∈ st_F, w.before args s = true) (hA : ∀ a : Nat, a < s.heap.size → ¬ A a) : ∃ q, st_P args s A 1 q := by
  obtain ⟨q, h1, h2⟩ := st_str (own := "CloudMarket$Reader") (k := 98) (bs := [116, 121, 112, 101]) (by decide) (hF _ (List.mem_of_getElem? (i := 87) (by decide +kernel))) (hF _ (List.mem_of_getElem? (i := 88) (by decide +kernel))) (hF _ (List.mem_of_getElem? (i := 89) (by decide +kernel))) (hF _ (List.mem_of_getElem? (i := 90) (by decide +kernel))) (st_bS (st_bS (st_bS (st_bS (st_b0 rfl) (hF _ (List.mem_of_getElem? (i := 91) (by decide +kernel)))) (hF _ (List.mem_of_getElem? (i := 92) (by decide +kernel)))) (hF _ (List.mem_of_getElem? (i := 93) (by decide +kernel)))) (hF _ (List.mem_of_getElem? (i := 94) (by decide +kernel)))) hA
  refine ⟨q, fun w hw hi => ?_, h2⟩
  have e : w = ("CloudMarket$Reader", 98, "type", 1) := ab_wd_one w hw hi 1 (by decide) (by decide +kernel)
  rw [e]
  exact h1
theorem st_s2 {args : Array Value} {s : State} {A : Nat → Prop} (hF : ∀ w ∈ st_F, w.before args s = true) (hA : ∀ a : Nat, a < s.heap.size → ¬ A a) : ∃ q, st_P args s A 2 q := by
  obtain ⟨q, h1, h2⟩ := st_str (own := "CloudMarket$Reader") (k := 103) (bs := [116, 101, 110, 97, 110, 116]) (by decide) (hF _ (List.mem_of_getElem? (i := 95) (by decide +kernel))) (hF _ (List.mem_of_getElem? (i := 96) (by decide +kernel))) (hF _ (List.mem_of_getElem? (i := 97) (by decide +kernel))) (hF _ (List.mem_of_getElem? (i := 98) (by decide +kernel))) (st_bS (st_bS (st_bS (st_bS (st_bS (st_bS (st_b0 rfl) (hF _ (List.mem_of_getElem? (i := 99) (by decide +kernel)))) (hF _ (List.mem_of_getElem? (i := 100) (by decide +kernel)))) (hF _ (List.mem_of_getElem? (i := 101) (by decide +kernel)))) (hF _ (List.mem_of_getElem? (i := 102) (by decide +kernel)))) (hF _ (List.mem_of_getElem? (i := 103) (by decide +kernel)))) (hF _ (List.mem_of_getElem? (i := 104) (by decide +kernel)))) hA
  refine ⟨q, fun w hw hi => ?_, h2⟩
  have e : w = ("CloudMarket$Reader", 103, "tenant", 2) := ab_wd_one w hw hi 2 (by decide) (by decide +kernel)
  rw [e]
  exact h1
theorem st_s3 {args : Array Value} {s : State} {A : Nat → Prop} (hF : ∀ w ∈ st_F, w.before args s = true) (hA : ∀ a : Nat, a < s.heap.size → ¬ A a) : ∃ q, st_P args s A 3 q := by
  obtain ⟨q, h1, h2⟩ := st_str (own := "CloudMarket$Reader") (k := 108) (bs := [114, 101, 115, 101, 114, 118, 101]) (by decide) (hF _ (List.mem_of_getElem? (i := 105) (by decide +kernel))) (hF _ (List.mem_of_getElem? (i := 106) (by decide +kernel))) (hF _ (List.mem_of_getElem? (i := 107) (by decide +kernel))) (hF _ (List.mem_of_getElem? (i := 108) (by decide +kernel))) (st_bS (st_bS (st_bS (st_bS (st_bS (st_bS (st_bS (st_b0 rfl) (hF _ (List.mem_of_getElem? (i := 109) (by decide +kernel)))) (hF _ (List.mem_of_getElem? (i := 110) (by decide +kernel)))) (hF _ (List.mem_of_getElem? (i := 111) (by decide +kernel)))) (hF _ (List.mem_of_getElem? (i := 112) (by decide +kernel)))) (hF _ (List.mem_of_getElem? (i := 113) (by decide +kernel)))) (hF _ (List.mem_of_getElem? (i := 114) (by decide +kernel)))) (hF _ (List.mem_of_getElem? (i := 115) (by decide +kernel)))) hA
  refine ⟨q, fun w hw hi => ?_, h2⟩
  have e : w = ("CloudMarket$Reader", 108, "reserve", 3) := ab_wd_one w hw hi 3 (by decide) (by decide +kernel)
  rw [e]
  exact h1
theorem st_s4 {args : Array Value} {s : State} {A : Nat → Prop} (hF : ∀ w ∈ st_F, w.before args s = true) (hA : ∀ a : Nat, a < s.heap.size → ¬ A a) : ∃ q, st_P args s A 4 q := by
  obtain ⟨q, h1, h2⟩ := st_str (own := "CloudMarket$Reader") (k := 116) (bs := [102, 108, 111, 111, 114]) (by decide) (hF _ (List.mem_of_getElem? (i := 116) (by decide +kernel))) (hF _ (List.mem_of_getElem? (i := 117) (by decide +kernel))) (hF _ (List.mem_of_getElem? (i := 118) (by decide +kernel))) (hF _ (List.mem_of_getElem? (i := 119) (by decide +kernel))) (st_bS (st_bS (st_bS (st_bS (st_bS (st_b0 rfl) (hF _ (List.mem_of_getElem? (i := 120) (by decide +kernel)))) (hF _ (List.mem_of_getElem? (i := 121) (by decide +kernel)))) (hF _ (List.mem_of_getElem? (i := 122) (by decide +kernel)))) (hF _ (List.mem_of_getElem? (i := 123) (by decide +kernel)))) (hF _ (List.mem_of_getElem? (i := 124) (by decide +kernel)))) hA
  refine ⟨q, fun w hw hi => ?_, h2⟩
  have e : w = ("CloudMarket$Reader", 116, "floor", 4) := ab_wd_one w hw hi 4 (by decide) (by decide +kernel)
  rw [e]
  exact h1
theorem st_s5 {args : Array Value} {s : State} {A : Nat → Prop} (hF : ∀ w ∈ st_F, w.before args s = true) (hA : ∀ a : Nat, a < s.heap.size → ¬ A a) : ∃ q, st_P args s A 5 q := by
  obtain ⟨q, h1, h2⟩ := st_str (own := "CloudMarket$Reader") (k := 124) (bs := [110, 111, 116, 105, 99, 101]) (by decide) (hF _ (List.mem_of_getElem? (i := 125) (by decide +kernel))) (hF _ (List.mem_of_getElem? (i := 126) (by decide +kernel))) (hF _ (List.mem_of_getElem? (i := 127) (by decide +kernel))) (hF _ (List.mem_of_getElem? (i := 128) (by decide +kernel))) (st_bS (st_bS (st_bS (st_bS (st_bS (st_bS (st_b0 rfl) (hF _ (List.mem_of_getElem? (i := 129) (by decide +kernel)))) (hF _ (List.mem_of_getElem? (i := 130) (by decide +kernel)))) (hF _ (List.mem_of_getElem? (i := 131) (by decide +kernel)))) (hF _ (List.mem_of_getElem? (i := 132) (by decide +kernel)))) (hF _ (List.mem_of_getElem? (i := 133) (by decide +kernel)))) (hF _ (List.mem_of_getElem? (i := 134) (by decide +kernel)))) hA
  refine ⟨q, fun w hw hi => ?_, h2⟩
  have e : w = ("CloudMarket$Reader", 124, "notice", 5) := ab_wd_one w hw hi 5 (by decide) (by decide +kernel)
  rw [e]
  exact h1
theorem st_s6 {args : Array Value} {s : State} {A : Nat → Prop} (hF : ∀ w ∈ st_F, w.before args s = true) (hA : ∀ a : Nat, a < s.heap.size → ¬ A a) : ∃ q, st_P args s A 6 q := by
  obtain ⟨q, h1, h2⟩ := st_str (own := "CloudMarket$Reader") (k := 126) (bs := [115, 108, 111, 112, 101]) (by decide) (hF _ (List.mem_of_getElem? (i := 135) (by decide +kernel))) (hF _ (List.mem_of_getElem? (i := 136) (by decide +kernel))) (hF _ (List.mem_of_getElem? (i := 137) (by decide +kernel))) (hF _ (List.mem_of_getElem? (i := 138) (by decide +kernel))) (st_bS (st_bS (st_bS (st_bS (st_bS (st_b0 rfl) (hF _ (List.mem_of_getElem? (i := 139) (by decide +kernel)))) (hF _ (List.mem_of_getElem? (i := 140) (by decide +kernel)))) (hF _ (List.mem_of_getElem? (i := 141) (by decide +kernel)))) (hF _ (List.mem_of_getElem? (i := 142) (by decide +kernel)))) (hF _ (List.mem_of_getElem? (i := 143) (by decide +kernel)))) hA
  refine ⟨q, fun w hw hi => ?_, h2⟩
  have e : w = ("CloudMarket$Reader", 126, "slope", 6) := ab_wd_one w hw hi 6 (by decide) (by decide +kernel)
  rw [e]
  exact h1
theorem st_s7 {args : Array Value} {s : State} {A : Nat → Prop} (hF : ∀ w ∈ st_F, w.before args s = true) (hA : ∀ a : Nat, a < s.heap.size → ¬ A a) : ∃ q, st_P args s A 7 q := by
  obtain ⟨q, h1, h2⟩ := st_str (own := "CloudMarket$Reader") (k := 128) (bs := [109, 111, 118, 101]) (by decide) (hF _ (List.mem_of_getElem? (i := 144) (by decide +kernel))) (hF _ (List.mem_of_getElem? (i := 145) (by decide +kernel))) (hF _ (List.mem_of_getElem? (i := 146) (by decide +kernel))) (hF _ (List.mem_of_getElem? (i := 147) (by decide +kernel))) (st_bS (st_bS (st_bS (st_bS (st_b0 rfl) (hF _ (List.mem_of_getElem? (i := 148) (by decide +kernel)))) (hF _ (List.mem_of_getElem? (i := 149) (by decide +kernel)))) (hF _ (List.mem_of_getElem? (i := 150) (by decide +kernel)))) (hF _ (List.mem_of_getElem? (i := 151) (by decide +kernel)))) hA
  refine ⟨q, fun w hw hi => ?_, h2⟩
  have e : w = ("CloudMarket$Reader", 128, "move", 7) := ab_wd_one w hw hi 7 (by decide) (by decide +kernel)
  rw [e]
  exact h1
theorem st_s8 {args : Array Value} {s : State} {A : Nat → Prop} (hF : ∀ w ∈ st_F, w.before args s = true) (hA : ∀ a : Nat, a < s.heap.size → ¬ A a) : ∃ q, st_P args s A 8 q := by
  obtain ⟨q, h1, h2⟩ := st_str (own := "CloudMarket$Reader") (k := 176) (bs := [99, 112, 117]) (by decide) (hF _ (List.mem_of_getElem? (i := 152) (by decide +kernel))) (hF _ (List.mem_of_getElem? (i := 153) (by decide +kernel))) (hF _ (List.mem_of_getElem? (i := 154) (by decide +kernel))) (hF _ (List.mem_of_getElem? (i := 155) (by decide +kernel))) (st_bS (st_bS (st_bS (st_b0 rfl) (hF _ (List.mem_of_getElem? (i := 156) (by decide +kernel)))) (hF _ (List.mem_of_getElem? (i := 157) (by decide +kernel)))) (hF _ (List.mem_of_getElem? (i := 158) (by decide +kernel)))) hA
  refine ⟨q, fun w hw hi => ?_, h2⟩
  have e : w = ("CloudMarket$Reader", 176, "cpu", 8) := ab_wd_one w hw hi 8 (by decide) (by decide +kernel)
  rw [e]
  exact h1
theorem st_s9 {args : Array Value} {s : State} {A : Nat → Prop} (hF : ∀ w ∈ st_F, w.before args s = true) (hA : ∀ a : Nat, a < s.heap.size → ¬ A a) : ∃ q, st_P args s A 9 q := by
  obtain ⟨q, h1, h2⟩ := st_str (own := "CloudMarket$Reader") (k := 178) (bs := [109, 101, 109, 111, 114, 121]) (by decide) (hF _ (List.mem_of_getElem? (i := 159) (by decide +kernel))) (hF _ (List.mem_of_getElem? (i := 160) (by decide +kernel))) (hF _ (List.mem_of_getElem? (i := 161) (by decide +kernel))) (hF _ (List.mem_of_getElem? (i := 162) (by decide +kernel))) (st_bS (st_bS (st_bS (st_bS (st_bS (st_bS (st_b0 rfl) (hF _ (List.mem_of_getElem? (i := 163) (by decide +kernel)))) (hF _ (List.mem_of_getElem? (i := 164) (by decide +kernel)))) (hF _ (List.mem_of_getElem? (i := 165) (by decide +kernel)))) (hF _ (List.mem_of_getElem? (i := 166) (by decide +kernel)))) (hF _ (List.mem_of_getElem? (i := 167) (by decide +kernel)))) (hF _ (List.mem_of_getElem? (i := 168) (by decide +kernel)))) hA
  refine ⟨q, fun w hw hi => ?_, h2⟩
  have e : w = ("CloudMarket$Reader", 178, "memory", 9) := ab_wd_one w hw hi 9 (by decide) (by decide +kernel)
  rw [e]
  exact h1
theorem st_s10 {args : Array Value} {s : State} {A : Nat → Prop} (hF : ∀ w ∈ st_F, w.before args s = true) (hA : ∀ a : Nat, a < s.heap.size → ¬ A a) : ∃ q, st_P args s A 10 q := by
  obtain ⟨q, h1, h2⟩ := st_str (own := "CloudMarket$Reader") (k := 180) (bs := [112, 114, 105, 99, 101]) (by decide) (hF _ (List.mem_of_getElem? (i := 169) (by decide +kernel))) (hF _ (List.mem_of_getElem? (i := 170) (by decide +kernel))) (hF _ (List.mem_of_getElem? (i := 171) (by decide +kernel))) (hF _ (List.mem_of_getElem? (i := 172) (by decide +kernel))) (st_bS (st_bS (st_bS (st_bS (st_bS (st_b0 rfl) (hF _ (List.mem_of_getElem? (i := 173) (by decide +kernel)))) (hF _ (List.mem_of_getElem? (i := 174) (by decide +kernel)))) (hF _ (List.mem_of_getElem? (i := 175) (by decide +kernel)))) (hF _ (List.mem_of_getElem? (i := 176) (by decide +kernel)))) (hF _ (List.mem_of_getElem? (i := 177) (by decide +kernel)))) hA
  refine ⟨q, fun w hw hi => ?_, h2⟩
  have e : w = ("CloudMarket$Reader", 180, "price", 10) := ab_wd_one w hw hi 10 (by decide) (by decide +kernel)
  rw [e]
  exact h1
theorem st_s11 {args : Array Value} {s : State} {A : Nat → Prop} (hF : ∀ w ∈ st_F, w.before args s = true) (hA : ∀ a : Nat, a < s.heap.size → ¬ A a) : ∃ q, st_P args s A 11 q := by
  obtain ⟨q, h1, h2⟩ := st_str (own := "CloudMarket$Reader") (k := 182) (bs := [97, 103, 101]) (by decide) (hF _ (List.mem_of_getElem? (i := 178) (by decide +kernel))) (hF _ (List.mem_of_getElem? (i := 179) (by decide +kernel))) (hF _ (List.mem_of_getElem? (i := 180) (by decide +kernel))) (hF _ (List.mem_of_getElem? (i := 181) (by decide +kernel))) (st_bS (st_bS (st_bS (st_b0 rfl) (hF _ (List.mem_of_getElem? (i := 182) (by decide +kernel)))) (hF _ (List.mem_of_getElem? (i := 183) (by decide +kernel)))) (hF _ (List.mem_of_getElem? (i := 184) (by decide +kernel)))) hA
  refine ⟨q, fun w hw hi => ?_, h2⟩
  have e : w = ("CloudMarket$Reader", 182, "age", 11) := ab_wd_one w hw hi 11 (by decide) (by decide +kernel)
  rw [e]
  exact h1
theorem st_s12 {args : Array Value} {s : State} {A : Nat → Prop} (hF : ∀ w ∈ st_F, w.before args s = true) (hA : ∀ a : Nat, a < s.heap.size → ¬ A a) : ∃ q, st_P args s A 12 q := by
  obtain ⟨q, h1, h2⟩ := st_str (own := "CloudMarketModel") (k := 177) (bs := [104, 111, 115, 116]) (by decide) (hF _ (List.mem_of_getElem? (i := 711) (by decide +kernel))) (hF _ (List.mem_of_getElem? (i := 712) (by decide +kernel))) (hF _ (List.mem_of_getElem? (i := 713) (by decide +kernel))) (hF _ (List.mem_of_getElem? (i := 714) (by decide +kernel))) (st_bS (st_bS (st_bS (st_bS (st_b0 rfl) (hF _ (List.mem_of_getElem? (i := 715) (by decide +kernel)))) (hF _ (List.mem_of_getElem? (i := 716) (by decide +kernel)))) (hF _ (List.mem_of_getElem? (i := 717) (by decide +kernel)))) (hF _ (List.mem_of_getElem? (i := 718) (by decide +kernel)))) hA
  refine ⟨q, fun w hw hi => ?_, h2⟩
  have e : w = ("CloudMarketModel", 177, "host", 12) := ab_wd_one w hw hi 12 (by decide) (by decide +kernel)
  rw [e]
  exact h1
theorem st_s13 {args : Array Value} {s : State} {A : Nat → Prop} (hF : ∀ w ∈ st_F, w.before args s = true) (hA : ∀ a : Nat, a < s.heap.size → ¬ A a) : ∃ q, st_P args s A 13 q := by
  obtain ⟨q, h1, h2⟩ := st_str (own := "CloudMarketModel") (k := 189) (bs := [116, 121, 112, 101]) (by decide) (hF _ (List.mem_of_getElem? (i := 720) (by decide +kernel))) (hF _ (List.mem_of_getElem? (i := 721) (by decide +kernel))) (hF _ (List.mem_of_getElem? (i := 722) (by decide +kernel))) (hF _ (List.mem_of_getElem? (i := 723) (by decide +kernel))) (st_bS (st_bS (st_bS (st_bS (st_b0 rfl) (hF _ (List.mem_of_getElem? (i := 724) (by decide +kernel)))) (hF _ (List.mem_of_getElem? (i := 725) (by decide +kernel)))) (hF _ (List.mem_of_getElem? (i := 726) (by decide +kernel)))) (hF _ (List.mem_of_getElem? (i := 727) (by decide +kernel)))) hA
  refine ⟨q, fun w hw hi => ?_, h2⟩
  have e : w = ("CloudMarketModel", 189, "type", 13) := ab_wd_one w hw hi 13 (by decide) (by decide +kernel)
  rw [e]
  exact h1
theorem st_s14 {args : Array Value} {s : State} {A : Nat → Prop} (hF : ∀ w ∈ st_F, w.before args s = true) (hA : ∀ a : Nat, a < s.heap.size → ¬ A a) : ∃ q, st_P args s A 14 q := by
  obtain ⟨q, h1, h2⟩ := st_str (own := "CloudMarketModel") (k := 191) (bs := [116, 101, 110, 97, 110, 116]) (by decide) (hF _ (List.mem_of_getElem? (i := 729) (by decide +kernel))) (hF _ (List.mem_of_getElem? (i := 730) (by decide +kernel))) (hF _ (List.mem_of_getElem? (i := 731) (by decide +kernel))) (hF _ (List.mem_of_getElem? (i := 732) (by decide +kernel))) (st_bS (st_bS (st_bS (st_bS (st_bS (st_bS (st_b0 rfl) (hF _ (List.mem_of_getElem? (i := 733) (by decide +kernel)))) (hF _ (List.mem_of_getElem? (i := 734) (by decide +kernel)))) (hF _ (List.mem_of_getElem? (i := 735) (by decide +kernel)))) (hF _ (List.mem_of_getElem? (i := 736) (by decide +kernel)))) (hF _ (List.mem_of_getElem? (i := 737) (by decide +kernel)))) (hF _ (List.mem_of_getElem? (i := 738) (by decide +kernel)))) hA
  refine ⟨q, fun w hw hi => ?_, h2⟩
  have e : w = ("CloudMarketModel", 191, "tenant", 14) := ab_wd_one w hw hi 14 (by decide) (by decide +kernel)
  rw [e]
  exact h1
theorem st_s15 {args : Array Value} {s : State} {A : Nat → Prop} (hF : ∀ w ∈ st_F, w.before args s = true) (hA : ∀ a : Nat, a < s.heap.size → ¬ A a) : ∃ q, st_P args s A 15 q := by
  obtain ⟨q, h1, h2⟩ := st_str (own := "CloudMarketModel") (k := 193) (bs := [114, 101, 115, 101, 114, 118, 101]) (by decide) (hF _ (List.mem_of_getElem? (i := 740) (by decide +kernel))) (hF _ (List.mem_of_getElem? (i := 741) (by decide +kernel))) (hF _ (List.mem_of_getElem? (i := 742) (by decide +kernel))) (hF _ (List.mem_of_getElem? (i := 743) (by decide +kernel))) (st_bS (st_bS (st_bS (st_bS (st_bS (st_bS (st_bS (st_b0 rfl) (hF _ (List.mem_of_getElem? (i := 744) (by decide +kernel)))) (hF _ (List.mem_of_getElem? (i := 745) (by decide +kernel)))) (hF _ (List.mem_of_getElem? (i := 746) (by decide +kernel)))) (hF _ (List.mem_of_getElem? (i := 747) (by decide +kernel)))) (hF _ (List.mem_of_getElem? (i := 748) (by decide +kernel)))) (hF _ (List.mem_of_getElem? (i := 749) (by decide +kernel)))) (hF _ (List.mem_of_getElem? (i := 750) (by decide +kernel)))) hA
  refine ⟨q, fun w hw hi => ?_, h2⟩
  have e : w = ("CloudMarketModel", 193, "reserve", 15) := ab_wd_one w hw hi 15 (by decide) (by decide +kernel)
  rw [e]
  exact h1
theorem st_s16 {args : Array Value} {s : State} {A : Nat → Prop} (hF : ∀ w ∈ st_F, w.before args s = true) (hA : ∀ a : Nat, a < s.heap.size → ¬ A a) : ∃ q, st_P args s A 16 q := by
  obtain ⟨q, h1, h2⟩ := st_str (own := "CloudMarketModel") (k := 198) (bs := [102, 108, 111, 111, 114]) (by decide) (hF _ (List.mem_of_getElem? (i := 752) (by decide +kernel))) (hF _ (List.mem_of_getElem? (i := 753) (by decide +kernel))) (hF _ (List.mem_of_getElem? (i := 754) (by decide +kernel))) (hF _ (List.mem_of_getElem? (i := 755) (by decide +kernel))) (st_bS (st_bS (st_bS (st_bS (st_bS (st_b0 rfl) (hF _ (List.mem_of_getElem? (i := 756) (by decide +kernel)))) (hF _ (List.mem_of_getElem? (i := 757) (by decide +kernel)))) (hF _ (List.mem_of_getElem? (i := 758) (by decide +kernel)))) (hF _ (List.mem_of_getElem? (i := 759) (by decide +kernel)))) (hF _ (List.mem_of_getElem? (i := 760) (by decide +kernel)))) hA
  refine ⟨q, fun w hw hi => ?_, h2⟩
  have e : w = ("CloudMarketModel", 198, "floor", 16) := ab_wd_one w hw hi 16 (by decide) (by decide +kernel)
  rw [e]
  exact h1
theorem st_s17 {args : Array Value} {s : State} {A : Nat → Prop} (hF : ∀ w ∈ st_F, w.before args s = true) (hA : ∀ a : Nat, a < s.heap.size → ¬ A a) : ∃ q, st_P args s A 17 q := by
  obtain ⟨q, h1, h2⟩ := st_str (own := "CloudMarketModel") (k := 207) (bs := [110, 111, 116, 105, 99, 101]) (by decide) (hF _ (List.mem_of_getElem? (i := 762) (by decide +kernel))) (hF _ (List.mem_of_getElem? (i := 763) (by decide +kernel))) (hF _ (List.mem_of_getElem? (i := 764) (by decide +kernel))) (hF _ (List.mem_of_getElem? (i := 765) (by decide +kernel))) (st_bS (st_bS (st_bS (st_bS (st_bS (st_bS (st_b0 rfl) (hF _ (List.mem_of_getElem? (i := 766) (by decide +kernel)))) (hF _ (List.mem_of_getElem? (i := 767) (by decide +kernel)))) (hF _ (List.mem_of_getElem? (i := 768) (by decide +kernel)))) (hF _ (List.mem_of_getElem? (i := 769) (by decide +kernel)))) (hF _ (List.mem_of_getElem? (i := 770) (by decide +kernel)))) (hF _ (List.mem_of_getElem? (i := 771) (by decide +kernel)))) hA
  refine ⟨q, fun w hw hi => ?_, h2⟩
  have e : w = ("CloudMarketModel", 207, "notice", 17) := ab_wd_one w hw hi 17 (by decide) (by decide +kernel)
  rw [e]
  exact h1
theorem st_s18 {args : Array Value} {s : State} {A : Nat → Prop} (hF : ∀ w ∈ st_F, w.before args s = true) (hA : ∀ a : Nat, a < s.heap.size → ¬ A a) : ∃ q, st_P args s A 18 q := by
  obtain ⟨q, h1, h2⟩ := st_str (own := "CloudMarketModel") (k := 209) (bs := [115, 108, 111, 112, 101]) (by decide) (hF _ (List.mem_of_getElem? (i := 773) (by decide +kernel))) (hF _ (List.mem_of_getElem? (i := 774) (by decide +kernel))) (hF _ (List.mem_of_getElem? (i := 775) (by decide +kernel))) (hF _ (List.mem_of_getElem? (i := 776) (by decide +kernel))) (st_bS (st_bS (st_bS (st_bS (st_bS (st_b0 rfl) (hF _ (List.mem_of_getElem? (i := 777) (by decide +kernel)))) (hF _ (List.mem_of_getElem? (i := 778) (by decide +kernel)))) (hF _ (List.mem_of_getElem? (i := 779) (by decide +kernel)))) (hF _ (List.mem_of_getElem? (i := 780) (by decide +kernel)))) (hF _ (List.mem_of_getElem? (i := 781) (by decide +kernel)))) hA
  refine ⟨q, fun w hw hi => ?_, h2⟩
  have e : w = ("CloudMarketModel", 209, "slope", 18) := ab_wd_one w hw hi 18 (by decide) (by decide +kernel)
  rw [e]
  exact h1
theorem st_s19 {args : Array Value} {s : State} {A : Nat → Prop} (hF : ∀ w ∈ st_F, w.before args s = true) (hA : ∀ a : Nat, a < s.heap.size → ¬ A a) : ∃ q, st_P args s A 19 q := by
  obtain ⟨q, h1, h2⟩ := st_str (own := "CloudMarketModel") (k := 211) (bs := [109, 111, 118, 101]) (by decide) (hF _ (List.mem_of_getElem? (i := 783) (by decide +kernel))) (hF _ (List.mem_of_getElem? (i := 784) (by decide +kernel))) (hF _ (List.mem_of_getElem? (i := 785) (by decide +kernel))) (hF _ (List.mem_of_getElem? (i := 786) (by decide +kernel))) (st_bS (st_bS (st_bS (st_bS (st_b0 rfl) (hF _ (List.mem_of_getElem? (i := 787) (by decide +kernel)))) (hF _ (List.mem_of_getElem? (i := 788) (by decide +kernel)))) (hF _ (List.mem_of_getElem? (i := 789) (by decide +kernel)))) (hF _ (List.mem_of_getElem? (i := 790) (by decide +kernel)))) hA
  refine ⟨q, fun w hw hi => ?_, h2⟩
  have e : w = ("CloudMarketModel", 211, "move", 19) := ab_wd_one w hw hi 19 (by decide) (by decide +kernel)
  rw [e]
  exact h1
theorem st_s20 {args : Array Value} {s : State} {A : Nat → Prop} (hF : ∀ w ∈ st_F, w.before args s = true) (hA : ∀ a : Nat, a < s.heap.size → ¬ A a) : ∃ q, st_P args s A 20 q := by
  obtain ⟨q, h1, h2⟩ := st_str (own := "CloudMarketModel") (k := 226) (bs := [99, 112, 117]) (by decide) (hF _ (List.mem_of_getElem? (i := 792) (by decide +kernel))) (hF _ (List.mem_of_getElem? (i := 793) (by decide +kernel))) (hF _ (List.mem_of_getElem? (i := 794) (by decide +kernel))) (hF _ (List.mem_of_getElem? (i := 795) (by decide +kernel))) (st_bS (st_bS (st_bS (st_b0 rfl) (hF _ (List.mem_of_getElem? (i := 796) (by decide +kernel)))) (hF _ (List.mem_of_getElem? (i := 797) (by decide +kernel)))) (hF _ (List.mem_of_getElem? (i := 798) (by decide +kernel)))) hA
  refine ⟨q, fun w hw hi => ?_, h2⟩
  have e : w = ("CloudMarketModel", 226, "cpu", 20) := ab_wd_one w hw hi 20 (by decide) (by decide +kernel)
  rw [e]
  exact h1
theorem st_s21 {args : Array Value} {s : State} {A : Nat → Prop} (hF : ∀ w ∈ st_F, w.before args s = true) (hA : ∀ a : Nat, a < s.heap.size → ¬ A a) : ∃ q, st_P args s A 21 q := by
  obtain ⟨q, h1, h2⟩ := st_str (own := "CloudMarketModel") (k := 227) (bs := [109, 101, 109, 111, 114, 121]) (by decide) (hF _ (List.mem_of_getElem? (i := 800) (by decide +kernel))) (hF _ (List.mem_of_getElem? (i := 801) (by decide +kernel))) (hF _ (List.mem_of_getElem? (i := 802) (by decide +kernel))) (hF _ (List.mem_of_getElem? (i := 803) (by decide +kernel))) (st_bS (st_bS (st_bS (st_bS (st_bS (st_bS (st_b0 rfl) (hF _ (List.mem_of_getElem? (i := 804) (by decide +kernel)))) (hF _ (List.mem_of_getElem? (i := 805) (by decide +kernel)))) (hF _ (List.mem_of_getElem? (i := 806) (by decide +kernel)))) (hF _ (List.mem_of_getElem? (i := 807) (by decide +kernel)))) (hF _ (List.mem_of_getElem? (i := 808) (by decide +kernel)))) (hF _ (List.mem_of_getElem? (i := 809) (by decide +kernel)))) hA
  refine ⟨q, fun w hw hi => ?_, h2⟩
  have e : w = ("CloudMarketModel", 227, "memory", 21) := ab_wd_one w hw hi 21 (by decide) (by decide +kernel)
  rw [e]
  exact h1
theorem st_s22 {args : Array Value} {s : State} {A : Nat → Prop} (hF : ∀ w ∈ st_F, w.before args s = true) (hA : ∀ a : Nat, a < s.heap.size → ¬ A a) : ∃ q, st_P args s A 22 q := by
  obtain ⟨q, h1, h2⟩ := st_str (own := "CloudMarketModel") (k := 228) (bs := [112, 114, 105, 99, 101]) (by decide) (hF _ (List.mem_of_getElem? (i := 811) (by decide +kernel))) (hF _ (List.mem_of_getElem? (i := 812) (by decide +kernel))) (hF _ (List.mem_of_getElem? (i := 813) (by decide +kernel))) (hF _ (List.mem_of_getElem? (i := 814) (by decide +kernel))) (st_bS (st_bS (st_bS (st_bS (st_bS (st_b0 rfl) (hF _ (List.mem_of_getElem? (i := 815) (by decide +kernel)))) (hF _ (List.mem_of_getElem? (i := 816) (by decide +kernel)))) (hF _ (List.mem_of_getElem? (i := 817) (by decide +kernel)))) (hF _ (List.mem_of_getElem? (i := 818) (by decide +kernel)))) (hF _ (List.mem_of_getElem? (i := 819) (by decide +kernel)))) hA
  refine ⟨q, fun w hw hi => ?_, h2⟩
  have e : w = ("CloudMarketModel", 228, "price", 22) := ab_wd_one w hw hi 22 (by decide) (by decide +kernel)
  rw [e]
  exact h1
theorem st_s23 {args : Array Value} {s : State} {A : Nat → Prop} (hF : ∀ w ∈ st_F, w.before args s = true) (hA : ∀ a : Nat, a < s.heap.size → ¬ A a) : ∃ q, st_P args s A 23 q := by
  obtain ⟨q, h1, h2⟩ := st_str (own := "CloudMarketModel") (k := 230) (bs := [97, 103, 101]) (by decide) (hF _ (List.mem_of_getElem? (i := 821) (by decide +kernel))) (hF _ (List.mem_of_getElem? (i := 822) (by decide +kernel))) (hF _ (List.mem_of_getElem? (i := 823) (by decide +kernel))) (hF _ (List.mem_of_getElem? (i := 824) (by decide +kernel))) (st_bS (st_bS (st_bS (st_b0 rfl) (hF _ (List.mem_of_getElem? (i := 825) (by decide +kernel)))) (hF _ (List.mem_of_getElem? (i := 826) (by decide +kernel)))) (hF _ (List.mem_of_getElem? (i := 827) (by decide +kernel)))) hA
  refine ⟨q, fun w hw hi => ?_, h2⟩
  have e : w = ("CloudMarketModel", 230, "age", 23) := ab_wd_one w hw hi 23 (by decide) (by decide +kernel)
  rw [e]
  exact h1
theorem st_all {args : Array Value} {s : State} {A : Nat → Prop} (hF : ∀ w ∈ st_F, w.before args s = true) (hA : ∀ a : Nat, a < s.heap.size → ¬ A a) : ∀ i : Nat, ∃ q, i < 24 → st_P args s A i q := by
  intro i
  match i with
  | 0 => exact (st_s0 hF hA).imp (fun q h _ => h)
  | 1 => exact (st_s1 hF hA).imp (fun q h _ => h)
  | 2 => exact (st_s2 hF hA).imp (fun q h _ => h)
  | 3 => exact (st_s3 hF hA).imp (fun q h _ => h)
  | 4 => exact (st_s4 hF hA).imp (fun q h _ => h)
  | 5 => exact (st_s5 hF hA).imp (fun q h _ => h)
  | 6 => exact (st_s6 hF hA).imp (fun q h _ => h)
  | 7 => exact (st_s7 hF hA).imp (fun q h _ => h)
  | 8 => exact (st_s8 hF hA).imp (fun q h _ => h)
  | 9 => exact (st_s9 hF hA).imp (fun q h _ => h)
  | 10 => exact (st_s10 hF hA).imp (fun q h _ => h)
  | 11 => exact (st_s11 hF hA).imp (fun q h _ => h)
  | 12 => exact (st_s12 hF hA).imp (fun q h _ => h)
  | 13 => exact (st_s13 hF hA).imp (fun q h _ => h)
  | 14 => exact (st_s14 hF hA).imp (fun q h _ => h)
  | 15 => exact (st_s15 hF hA).imp (fun q h _ => h)
  | 16 => exact (st_s16 hF hA).imp (fun q h _ => h)
  | 17 => exact (st_s17 hF hA).imp (fun q h _ => h)
  | 18 => exact (st_s18 hF hA).imp (fun q h _ => h)
  | 19 => exact (st_s19 hF hA).imp (fun q h _ => h)
  | 20 => exact (st_s20 hF hA).imp (fun q h _ => h)
  | 21 => exact (st_s21 hF hA).imp (fun q h _ => h)
  | 22 => exact (st_s22 hF hA).imp (fun q h _ => h)
  | 23 => exact (st_s23 hF hA).imp (fun q h _ => h)
  | i + 24 => exact ⟨(0, 0), fun h => by omega⟩
theorem st_ev {args : Array Value} {s : State} {t : Term} (h : (Cond.exactly t "java/lang/String").before args s = true) : ∃ a, t.eval args s none [] s = some (.ref a) := by
  obtain ⟨a, c, cell, k, h1, -⟩ := Cond.exactly_spec h
  exact ⟨a, h1⟩
theorem st_wdref : ∀ w ∈ ab_wd, Cond.stringRef w.1 w.2.1 w.2.2.1 ∈ lw_tbl := by
  show ∀ w ∈ [("CloudMarket$Reader", 77, "host", 0), ("CloudMarket$Reader", 98, "type", 1), ("CloudMarket$Reader", 103, "tenant", 2), ("CloudMarket$Reader", 108, "reserve", 3), ("CloudMarket$Reader", 116, "floor", 4), ("CloudMarket$Reader", 124, "notice", 5), ("CloudMarket$Reader", 126, "slope", 6), ("CloudMarket$Reader", 128, "move", 7), ("CloudMarket$Reader", 176, "cpu", 8), ("CloudMarket$Reader", 178, "memory", 9), ("CloudMarket$Reader", 180, "price", 10), ("CloudMarket$Reader", 182, "age", 11), ("CloudMarketModel", 177, "host", 12), ("CloudMarketModel", 189, "type", 13), ("CloudMarketModel", 191, "tenant", 14), ("CloudMarketModel", 193, "reserve", 15), ("CloudMarketModel", 198, "floor", 16), ("CloudMarketModel", 207, "notice", 17), ("CloudMarketModel", 209, "slope", 18), ("CloudMarketModel", 211, "move", 19), ("CloudMarketModel", 226, "cpu", 20), ("CloudMarketModel", 227, "memory", 21), ("CloudMarketModel", 228, "price", 22), ("CloudMarketModel", 230, "age", 23)], _
  exact (List.forall_mem_cons.mpr ⟨ab_in3 (List.mem_of_getElem? (i := 133) (by decide +kernel)), (List.forall_mem_cons.mpr ⟨ab_in3 (List.mem_of_getElem? (i := 219) (by decide +kernel)), (List.forall_mem_cons.mpr ⟨ab_in3 (List.mem_of_getElem? (i := 220) (by decide +kernel)), (List.forall_mem_cons.mpr ⟨ab_in3 (List.mem_of_getElem? (i := 221) (by decide +kernel)), (List.forall_mem_cons.mpr ⟨ab_in3 (List.mem_of_getElem? (i := 227) (by decide +kernel)), (List.forall_mem_cons.mpr ⟨ab_in3 (List.mem_of_getElem? (i := 232) (by decide +kernel)), (List.forall_mem_cons.mpr ⟨ab_in3 (List.mem_of_getElem? (i := 233) (by decide +kernel)), (List.forall_mem_cons.mpr ⟨ab_in3 (List.mem_of_getElem? (i := 234) (by decide +kernel)), (List.forall_mem_cons.mpr ⟨ab_in4 (List.mem_of_getElem? (i := 12) (by decide +kernel)), (List.forall_mem_cons.mpr ⟨ab_in4 (List.mem_of_getElem? (i := 13) (by decide +kernel)), (List.forall_mem_cons.mpr ⟨ab_in4 (List.mem_of_getElem? (i := 14) (by decide +kernel)), (List.forall_mem_cons.mpr ⟨ab_in4 (List.mem_of_getElem? (i := 15) (by decide +kernel)), (List.forall_mem_cons.mpr ⟨ab_in7 (List.mem_of_getElem? (i := 33) (by decide +kernel)), (List.forall_mem_cons.mpr ⟨ab_in7 (List.mem_of_getElem? (i := 64) (by decide +kernel)), (List.forall_mem_cons.mpr ⟨ab_in7 (List.mem_of_getElem? (i := 65) (by decide +kernel)), (List.forall_mem_cons.mpr ⟨ab_in7 (List.mem_of_getElem? (i := 66) (by decide +kernel)), (List.forall_mem_cons.mpr ⟨ab_in7 (List.mem_of_getElem? (i := 71) (by decide +kernel)), (List.forall_mem_cons.mpr ⟨ab_in7 (List.mem_of_getElem? (i := 83) (by decide +kernel)), (List.forall_mem_cons.mpr ⟨ab_in7 (List.mem_of_getElem? (i := 84) (by decide +kernel)), (List.forall_mem_cons.mpr ⟨ab_in7 (List.mem_of_getElem? (i := 85) (by decide +kernel)), (List.forall_mem_cons.mpr ⟨ab_in7 (List.mem_of_getElem? (i := 110) (by decide +kernel)), (List.forall_mem_cons.mpr ⟨ab_in7 (List.mem_of_getElem? (i := 111) (by decide +kernel)), (List.forall_mem_cons.mpr ⟨ab_in7 (List.mem_of_getElem? (i := 112) (by decide +kernel)), (List.forall_mem_cons.mpr ⟨ab_in7 (List.mem_of_getElem? (i := 113) (by decide +kernel)), (fun _ h => by cases h)⟩)⟩)⟩)⟩)⟩)⟩)⟩)⟩)⟩)⟩)⟩)⟩)⟩)⟩)⟩)⟩)⟩)⟩)⟩)⟩)⟩)⟩)⟩)⟩)
theorem st_xtref : ∀ w ∈ ab_xt, Cond.stringRef w.1 w.2.1 w.2.2 ∈ lw_tbl ∧ Cond.exactly (.string w.1 w.2.1) "java/lang/String" ∈ st_F := by
  show ∀ w ∈ [("CloudMarket", 78, "length out of range"), ("CloudMarket", 218, "the instance is not on the host"), ("CloudMarket", 226, "too many instances on the host"), ("CloudMarket", 235, "hours out of range"), ("CloudMarket", 244, "the clock would exceed its end"), ("CloudMarket", 259, "too many instances"), ("CloudMarket", 261, "the type fits no host"), ("CloudMarket", 267, "price out of range"), ("CloudMarket", 270, "too many waiting requests"), ("CloudMarket", 283, "a regular instance"), ("CloudMarket", 285, "the instance has a notice"), ("CloudMarket", 290, "the instance is on this host"), ("CloudMarket", 296, "the instance does not fit the host"), ("CloudMarket", 301, "no instances or too many on the host"), ("CloudMarket", 303, "the host cannot be drained"), ("CloudMarket", 323, "the slot is empty"), ("CloudMarket", 330, "no such number"), ("CloudMarket", 336, "no such running instance"), ("CloudMarket", 338, "no such slot"), ("CloudMarket", 340, "the tenant is over budget")], _
  exact (List.forall_mem_cons.mpr ⟨⟨ab_in3 (List.mem_of_getElem? (i := 85) (by decide +kernel)), List.mem_of_getElem? (i := 56) (by decide +kernel)⟩, (List.forall_mem_cons.mpr ⟨⟨ab_in5 (List.mem_of_getElem? (i := 88) (by decide +kernel)), List.mem_of_getElem? (i := 231) (by decide +kernel)⟩, (List.forall_mem_cons.mpr ⟨⟨ab_in5 (List.mem_of_getElem? (i := 96) (by decide +kernel)), List.mem_of_getElem? (i := 266) (by decide +kernel)⟩, (List.forall_mem_cons.mpr ⟨⟨ab_in5 (List.mem_of_getElem? (i := 120) (by decide +kernel)), List.mem_of_getElem? (i := 300) (by decide +kernel)⟩, (List.forall_mem_cons.mpr ⟨⟨ab_in5 (List.mem_of_getElem? (i := 184) (by decide +kernel)), List.mem_of_getElem? (i := 322) (by decide +kernel)⟩, (List.forall_mem_cons.mpr ⟨⟨ab_in5 (List.mem_of_getElem? (i := 211) (by decide +kernel)), List.mem_of_getElem? (i := 385) (by decide +kernel)⟩, (List.forall_mem_cons.mpr ⟨⟨ab_in5 (List.mem_of_getElem? (i := 212) (by decide +kernel)), List.mem_of_getElem? (i := 407) (by decide +kernel)⟩, (List.forall_mem_cons.mpr ⟨⟨ab_in5 (List.mem_of_getElem? (i := 221) (by decide +kernel)), List.mem_of_getElem? (i := 432) (by decide +kernel)⟩, (List.forall_mem_cons.mpr ⟨⟨ab_in5 (List.mem_of_getElem? (i := 223) (by decide +kernel)), List.mem_of_getElem? (i := 454) (by decide +kernel)⟩, (List.forall_mem_cons.mpr ⟨⟨ab_in6 (List.mem_of_getElem? (i := 15) (by decide +kernel)), List.mem_of_getElem? (i := 483) (by decide +kernel)⟩, (List.forall_mem_cons.mpr ⟨⟨ab_in6 (List.mem_of_getElem? (i := 16) (by decide +kernel)), List.mem_of_getElem? (i := 505) (by decide +kernel)⟩, (List.forall_mem_cons.mpr ⟨⟨ab_in6 (List.mem_of_getElem? (i := 25) (by decide +kernel)), List.mem_of_getElem? (i := 534) (by decide +kernel)⟩, (List.forall_mem_cons.mpr ⟨⟨ab_in6 (List.mem_of_getElem? (i := 27) (by decide +kernel)), List.mem_of_getElem? (i := 566) (by decide +kernel)⟩, (List.forall_mem_cons.mpr ⟨⟨ab_in6 (List.mem_of_getElem? (i := 41) (by decide +kernel)), List.mem_of_getElem? (i := 604) (by decide +kernel)⟩, (List.forall_mem_cons.mpr ⟨⟨ab_in6 (List.mem_of_getElem? (i := 42) (by decide +kernel)), List.mem_of_getElem? (i := 644) (by decide +kernel)⟩, (List.forall_mem_cons.mpr ⟨⟨ab_in6 (List.mem_of_getElem? (i := 75) (by decide +kernel)), List.mem_of_getElem? (i := 690) (by decide +kernel)⟩, (List.forall_mem_cons.mpr ⟨⟨ab_in4 (List.mem_of_getElem? (i := 74) (by decide +kernel)), List.mem_of_getElem? (i := 185) (by decide +kernel)⟩, (List.forall_mem_cons.mpr ⟨⟨ab_in4 (List.mem_of_getElem? (i := 142) (by decide +kernel)), List.mem_of_getElem? (i := 203) (by decide +kernel)⟩, (List.forall_mem_cons.mpr ⟨⟨ab_in6 (List.mem_of_getElem? (i := 59) (by decide +kernel)), List.mem_of_getElem? (i := 674) (by decide +kernel)⟩, (List.forall_mem_cons.mpr ⟨⟨ab_in5 (List.mem_of_getElem? (i := 209) (by decide +kernel)), List.mem_of_getElem? (i := 356) (by decide +kernel)⟩, (fun _ h => by cases h)⟩)⟩)⟩)⟩)⟩)⟩)⟩)⟩)⟩)⟩)⟩)⟩)⟩)⟩)⟩)⟩)⟩)⟩)⟩)⟩)
theorem st_nc {args : Array Value} {s : State} (hF : ∀ w ∈ st_F, w.before args s = true) : ∀ i j : Nat, i < 3 → j < 3 → i ≠ j → va_Nc (ab_xn i) (ab_xn j) s := by
  intro i j hi hj hn
  match i, j, hi, hj with
  | 0, 0, _, _ => exact absurd rfl hn
  | 0, 1, _, _ => exact va_Nc.of (hF _ (List.mem_of_getElem? (i := 55) (by decide +kernel)))
  | 0, 2, _, _ => exact va_Nc.of (hF _ (List.mem_of_getElem? (i := 24) (by decide +kernel)))
  | 1, 0, _, _ => exact va_Nc.of (hF _ (List.mem_of_getElem? (i := 40) (by decide +kernel)))
  | 1, 1, _, _ => exact absurd rfl hn
  | 1, 2, _, _ => exact va_Nc.of (hF _ (List.mem_of_getElem? (i := 25) (by decide +kernel)))
  | 2, 0, _, _ => exact va_Nc.of (hF _ (List.mem_of_getElem? (i := 39) (by decide +kernel)))
  | 2, 1, _, _ => exact va_Nc.of (hF _ (List.mem_of_getElem? (i := 54) (by decide +kernel)))
  | 2, 2, _, _ => exact absurd rfl hn
theorem st_cast : ∀ i : Nat, Cond.castable (ab_xn i) (ab_xn i) ∈ lw_tbl := by
  intro i
  match i with
  | 0 => exact ab_in4 (List.mem_of_getElem? (i := 67) (by decide +kernel))
  | 1 => exact ab_in5 (List.mem_of_getElem? (i := 81) (by decide +kernel))
  | i + 2 =>
    show Cond.castable "java/lang/IllegalArgumentException" "java/lang/IllegalArgumentException" ∈ lw_tbl
    exact ab_in3 (List.mem_of_getElem? (i := 46) (by decide +kernel))
theorem st_eqv {args : Array Value} {s : State} {t : Term} {v : Int32} (h : (Cond.eq t (.int v)).before args s = true) : t.eval args s none [] s = some (.int v) := by
  cases ht : t.eval args s none [] s with
  | none => simp [Cond.before, Cond.holds, Cond.value, Term.eval, ht] at h
  | some w =>
    simp [Cond.before, Cond.holds, Cond.value, Term.eval, ht] at h
    cases w <;> simp_all
theorem st_arr {args : Array Value} {s : State} {ty : FieldType} (h : (Cond.arrayClass ty).before args s = true) (hobj : ∀ cA, s.vm.findClass ("[" ++ ty.toString) = some cA → va_RA s cA ty) : ∃ cA, ArrOfT s cA ty ∧ va_RA s cA ty := by
  obtain ⟨cA, kA, comp, h1, h2, h3⟩ := Cond.arrayClass_spec h
  exact ⟨cA, fun n z => ⟨fun k q => (by cases q), kA, h2, comp, h3⟩, hobj cA h1⟩
theorem st_arrq {args : Array Value} {s : State} {C : String} (h : (Cond.arrayOver (.object C)).before args s = true) : ∃ cA, ArrOfT s cA (.object C) ∧ va_RA s cA (.object C) := by
  obtain ⟨comp, cA, kA, h1, -, h2, h3, h4⟩ := Cond.arrayOver_spec h
  exact ⟨cA, fun n z => ⟨fun k q => (by cases q), kA, h2, comp, h3⟩, kA, comp, h2, h3, h1, h4⟩
set_option maxHeartbeats 4000000 in
set_option maxRecDepth 100000 in
/-- the abstract world at the law's entry -/
theorem st_world {s : State} {m : MethodId} {b L : Nat} {xs : Nat → Int32} (hts : ∀ w ∈ lw_tbl, w.before #[Value.ref b] s = true) (hX : va_X b L xs s s.heap) (hbl : b < s.heap.size) (hgv : (Jvm.Cond.and given_1 narrow_1).before #[Value.ref b] s = true) :
    ∃ g : ab_G, ab_EF g (fun q => s.heap.size ≤ q) s ∧ g.2.2.1 2000 = b ∧ g.2.2.2 = (s.heap.size, L, xs) := by
  have hF : ∀ w ∈ st_F, w.before #[Value.ref b] s = true := flat_of_before _ hgv
  have hA : ∀ a : Nat, a < s.heap.size → ¬ (fun q => s.heap.size ≤ q) a := fun a h => Nat.not_le.mpr h
  have htb : ∀ w ∈ ab_tb, w.before #[Value.ref b] s = true := fun w h => hts w (List.mem_filter.mp h).1
  obtain ⟨c0, i0, hk0⟩ := u_known (C := RX0) (T := TX0) (N := 2) (n := 2) htb fi_X0 (htb _ (ab_at2 31 (by decide +kernel) (by decide +kernel)))
  obtain ⟨c1, i1, hk1⟩ := u_known (C := RX1) (T := TX1) (N := 6) (n := 6) htb fi_X1 (htb _ (ab_at1 43 (by decide +kernel) (by decide +kernel)))
  obtain ⟨c2, i2, hk2⟩ := u_known (C := RX2) (T := TX2) (N := 4) (n := 4) htb fi_X2 (htb _ (ab_at2 111 (by decide +kernel) (by decide +kernel)))
  obtain ⟨c3, i3, hk3⟩ := u_known (C := RX3) (T := TX3) (N := 3) (n := 3) htb fi_X3 (htb _ (ab_at2 93 (by decide +kernel) (by decide +kernel)))
  obtain ⟨c4, i4, hk4⟩ := u_known (C := RX4) (T := TX4) (N := 5) (n := 5) htb fi_X4 (htb _ (ab_at2 5 (by decide +kernel) (by decide +kernel)))
  obtain ⟨c5, i5, hk5⟩ := u_known (C := RX5) (T := TX5) (N := 3) (n := 3) htb fi_X5 (htb _ (ab_at2 55 (by decide +kernel) (by decide +kernel)))
  obtain ⟨c6, i6, hk6⟩ := u_known (C := RX6) (T := TX6) (N := 6) (n := 6) htb fi_X6 (htb _ (ab_at2 47 (by decide +kernel) (by decide +kernel)))
  obtain ⟨c7, i7, hk7⟩ := u_known (C := RX7) (T := TX7) (N := 11) (n := 11) htb fi_X7 (htb _ (ab_at1 37 (by decide +kernel) (by decide +kernel)))
  obtain ⟨c8, i8, hk8⟩ := u_known (C := RX8) (T := TX8) (N := 7) (n := 7) htb fi_X8 (htb _ (ab_at1 203 (by decide +kernel) (by decide +kernel)))
  obtain ⟨c9, i9, hk9⟩ := u_known (C := RX9) (T := TX9) (N := 3) (n := 3) htb fi_X9 (htb _ (ab_at1 84 (by decide +kernel) (by decide +kernel)))
  obtain ⟨c10, i10, hk10⟩ := u_known (C := RX10) (T := TX10) (N := 4) (n := 4) htb fi_X10 (htb _ (ab_at1 49 (by decide +kernel) (by decide +kernel)))
  obtain ⟨c11, i11, hk11⟩ := u_known (C := RX11) (T := TX11) (N := 9) (n := 9) htb fi_X11 (htb _ (ab_at1 29 (by decide +kernel) (by decide +kernel)))
  obtain ⟨c12, i12, hk12⟩ := u_known (C := RX12) (T := TX12) (N := 33) (n := 33) htb fi_X12 (htb _ (ab_at6 82 (by decide +kernel) (by decide +kernel)))
  obtain ⟨dC, dI, hKc⟩ : ∃ (dC : Nat → ClassId) (dI : Nat → Nat → Nat), ∀ (k : Nat) (q : vw_C), vwCl[k]? = some q → u_Kn s q.1 q.2.1 q.2.2 (dC k) (dI k) := by
    refine ⟨fun k => if k = 0 then c0 else if k = 1 then c1 else if k = 2 then c2 else if k = 3 then c3 else if k = 4 then c4 else if k = 5 then c5 else if k = 6 then c6 else if k = 7 then c7 else if k = 8 then c8 else if k = 9 then c9 else if k = 10 then c10 else if k = 11 then c11 else c12, fun k => if k = 0 then i0 else if k = 1 then i1 else if k = 2 then i2 else if k = 3 then i3 else if k = 4 then i4 else if k = 5 then i5 else if k = 6 then i6 else if k = 7 then i7 else if k = 8 then i8 else if k = 9 then i9 else if k = 10 then i10 else if k = 11 then i11 else i12, ?_⟩
    intro k q hq
    match k, hq with
    | 0, hq => cases hq; exact hk0
    | 1, hq => cases hq; exact hk1
    | 2, hq => cases hq; exact hk2
    | 3, hq => cases hq; exact hk3
    | 4, hq => cases hq; exact hk4
    | 5, hq => cases hq; exact hk5
    | 6, hq => cases hq; exact hk6
    | 7, hq => cases hq; exact hk7
    | 8, hq => cases hq; exact hk8
    | 9, hq => cases hq; exact hk9
    | 10, hq => cases hq; exact hk10
    | 11, hq => cases hq; exact hk11
    | 12, hq => cases hq; exact hk12
    | k + 13, hq => simp [vwCl] at hq
  obtain ⟨f, hf⟩ := Classical.axiomOfChoice (st_all (A := fun q => s.heap.size ≤ q) hF hA)
  obtain ⟨a0, ha0⟩ := st_arr (ty := .int) (hts _ (ab_in1 (List.mem_of_getElem? (i := 82) (by decide +kernel)))) (fun _ h => h)
  obtain ⟨a1, ha1⟩ := st_arr (ty := .byte) (hts _ (ab_in1 (List.mem_of_getElem? (i := 81) (by decide +kernel)))) (fun _ h => h)
  obtain ⟨a2, ha2⟩ := st_arr (ty := .boolean) (hts _ (ab_in6 (List.mem_of_getElem? (i := 230) (by decide +kernel)))) (fun _ h => h)
  obtain ⟨a3, ha3⟩ := st_arr (ty := .long) (hts _ (ab_in2 (List.mem_of_getElem? (i := 3) (by decide +kernel)))) (fun _ h => h)
  obtain ⟨a4, ha4⟩ := st_arrq (C := RX8) (hts _ (ab_in2 (List.mem_of_getElem? (i := 11) (by decide +kernel))))
  have hsi := va_Zqof (C := "jdk/internal/util/Preconditions") (n := "SIOOBE_FORMATTER") (d := "Ljava/util/function/BiFunction;") (A := fun q => s.heap.size ≤ q) (hts _ (ab_in3 (List.mem_of_getElem? (i := 163) (by decide +kernel)))) (hts _ (ab_in1 (List.mem_of_getElem? (i := 22) (by decide +kernel)))) (hF _ (List.mem_of_getElem? (i := 7) (by decide +kernel))) hA
  obtain ⟨t, ht⟩ : ∃ t : Nat, va_Z "jdk/internal/util/Preconditions" "SIOOBE_FORMATTER" "Ljava/util/function/BiFunction;" .null (fun q => s.heap.size ≤ q) s s.heap ∨ va_Z "jdk/internal/util/Preconditions" "SIOOBE_FORMATTER" "Ljava/util/function/BiFunction;" (.ref t) (fun q => s.heap.size ≤ q) s s.heap := by
    rcases hsi with h | ⟨t, h⟩
    · exact ⟨0, Or.inl h⟩
    · exact ⟨t, Or.inr h⟩
  obtain ⟨rho, hr1, hr2, hr3, hr4⟩ : ∃ rho : Nat → Nat, (∀ r, r < 1000 → rho r = s.heap.size + r) ∧ rho 2000 = b ∧ rho 2001 = t ∧ ∀ i, i < 24 → rho (1000 + 2 * i) = (f i).1 ∧ rho (1001 + 2 * i) = (f i).2 := by
    refine ⟨fun r => if r < 1000 then s.heap.size + r else if r = 2000 then b else if r = 2001 then t else if r % 2 = 0 then (f ((r - 1000) / 2)).1 else (f ((r - 1001) / 2)).2, fun r h => by simp [h], by simp, by simp, fun i hi => ⟨?_, ?_⟩⟩
    · have e1 : ¬ 1000 + 2 * i < 1000 := by omega
      have e2 : ¬ 1000 + 2 * i = 2000 := by omega
      have e3 : ¬ 1000 + 2 * i = 2001 := by omega
      have e4 : (1000 + 2 * i) % 2 = 0 := by omega
      have e5 : (1000 + 2 * i - 1000) / 2 = i := by omega
      simp only [e1, e2, e3, e4, e5, if_false, if_true]
    · have e1 : ¬ 1001 + 2 * i < 1000 := by omega
      have e2 : ¬ 1001 + 2 * i = 2000 := by omega
      have e3 : ¬ 1001 + 2 * i = 2001 := by omega
      have e4 : ¬ (1001 + 2 * i) % 2 = 0 := by omega
      have e5 : (1001 + 2 * i - 1001) / 2 = i := by omega
      simp only [e1, e2, e3, e4, e5, if_false]
  refine ⟨((dC, dI), (fun k => if k = 0 then a0 else if k = 1 then a1 else if k = 2 then a2 else if k = 3 then a3 else a4), rho, s.heap.size, L, xs), ?_, hr2, rfl⟩
  refine ⟨⟨fun a i b' n d' h' hm => va_Nw.of rfl (hts _ hm), fun a i x' h' hm => va_Nw.of rfl (hts _ hm)⟩, ⟨hKc, ?_⟩, ?_, ?_, ?_, ?_, ?_, ?_, ⟨fun x' hx' => va_Nw.of rfl (hts _ hx'), fun i j => ⟨fun e => by subst e; exact va_Nw.of rfl (hts _ (st_cast i)), fun hi hj hn => st_nc hF i j hi hj hn⟩⟩, va_AO.of (hts _ (ab_in2 (List.mem_of_getElem? (i := 11) (by decide +kernel)))), ⟨by show va_X (rho 2000) L xs s s.heap; rw [hr2]; exact hX, by show rho 2000 < s.heap.size; rw [hr2]; exact hbl, by show ¬ s.heap.size ≤ rho 2000; rw [hr2]; exact Nat.not_le.mpr hbl, ?_⟩, Nat.le_refl _, hr1⟩
  · intro k q hq
    match k, hq with
    | 0, hq => cases hq; exact ha0
    | 1, hq => cases hq; exact ha1
    | 2, hq => cases hq; exact ha2
    | 3, hq => cases hq; exact ha3
    | 4, hq => cases hq; exact ha4
    | k + 5, hq => simp [ab_tys] at hq
  · intro q hq
    have hlt : ∀ w ∈ ab_wd, w.2.2.2 < 24 := by decide +kernel
    have h1 := hf q.2.2.2 (hlt q hq)
    refine vk_R.of (A := #[Value.ref b]) (hts _ (st_wdref q hq)) ?_
    show _ = some (Value.ref (rho (1000 + 2 * q.2.2.2)))
    rw [(hr4 _ (hlt q hq)).1]
    exact h1.1 q hq rfl
  · intro q hq
    obtain ⟨w1, w2⟩ := st_xtref q hq
    obtain ⟨a, ha⟩ := st_ev (hF _ w2)
    exact ⟨a, vk_R.of (hts _ w1) ha⟩
  · intro i hi
    obtain ⟨-, k1, k2, k3, k4⟩ := hf i hi
    show va_O "java/lang/String" (rho (1000 + 2 * i)) _ s s.heap ∧ va_OF "java/lang/String" "coder" "B" (.int 0) (rho (1000 + 2 * i)) _ s s.heap ∧ va_OF "java/lang/String" "value" "[B" (.ref (rho (1001 + 2 * i))) (rho (1000 + 2 * i)) _ s s.heap ∧ va_T .byte (rho (1001 + 2 * i)) _ _ _ s s.heap
    rw [(hr4 i hi).1, (hr4 i hi).2]
    exact ⟨k1, k2, k3, k4⟩
  · exact vx_Zqof (hts _ (ab_in3 (List.mem_of_getElem? (i := 71) (by decide +kernel)))) (hts _ (ab_in1 (List.mem_of_getElem? (i := 16) (by decide +kernel)))) (hF _ (List.mem_of_getElem? (i := 4) (by decide +kernel))) hA
  · exact vx_Zqof (hts _ (ab_in3 (List.mem_of_getElem? (i := 73) (by decide +kernel)))) (hts _ (ab_in1 (List.mem_of_getElem? (i := 16) (by decide +kernel)))) (hF _ (List.mem_of_getElem? (i := 5) (by decide +kernel))) hA
  · have h1 : (Cond.eq (.static "java/lang/String" "COMPACT_STRINGS" "Z") (.int 1)).before #[Value.ref b] s = true := hF _ (List.mem_of_getElem? (i := 6) (by decide +kernel))
    refine va_Zof (hts _ (ab_in3 (List.mem_of_getElem? (i := 147) (by decide +kernel)))) (hts _ (ab_in1 (List.mem_of_getElem? (i := 20) (by decide +kernel)))) ?_ hA
    exact st_eqv h1
  · show va_Z _ _ _ .null _ s s.heap ∨ va_Z _ _ _ (.ref (rho 2001)) _ s s.heap
    rw [hr3]
    exact ht
