/-! ===== the rows of the logic: arrays, new cells ===== -/
theorem ab_upd_row (I : Nat → Nat → Int32) (r k : Nat) (x : Int32) : ab_u I r k x r = upd (I r) k x := ab_u_row I r k x
theorem ab_updL_row (I : Nat → Nat → Int64) (r k : Nat) (x : Int64) : ab_u I r k x r = vp_updL (I r) k x := ab_u_row I r k x
theorem ab_cat (g : ab_G) {st : List Value} (h : (st.map fun v => v.category).sum ≤ 8) : ((st.map (ab_v g)).map fun v => v.category).sum ≤ 8 := by
  rw [List.map_map]
  have e9 : ((fun v : Value => v.category) ∘ ab_v g) = fun v => v.category := by funext v; exact ab_v_cat g v
  rw [e9]; exact h
section RA
variable {l : Launch} {g : ab_G} {cc : ByteArray} {own : String} {nL : Nat} {rt : Option FieldType} {hh : List (Nat × Nat × Nat × Nat)} {ini : Bool} {d : Nat} {o : ab_O} {m' : ab_Mm} {pc : Nat} {L : ab_L} {st : List Value} {m : ab_Mm}
theorem ru_iaload {β : Type} {z : β} {f : Int32 → Option β} {r : Nat} {i : Int32} (h : (ab_ld m 1 r i).bind f = some z) (hd : decode cc pc = .ok (.iaload, 1))
    (kk : ∀ v, f v = some z → ab_W l g cc own nL rt hh ini d o m' (pc + 1) L (.int v :: st) m) : ab_W l g cc own nL rt hh ini d o m' pc L (.int i :: .ref r :: st) m := by
  obtain ⟨v, h1, h2⟩ := Option.bind_eq_some_iff.mp h
  obtain ⟨n, fs, h3, h4, rfl⟩ := ab_ld_spec h1
  have k1 := kk _ h2
  exact ⟨k1.1, fun p e R s mi args below meth c A cf sf Q H locs cells slots ls cx hr he wh hS hl hz => va_iald cx.1 cx.2.1 cx.2.2.2.2.2.2.2.1.2.1 wh.1 r 0 (ab_ws_of h3) rfl h4 hd (k1.2 p e R s mi args below meth c A cf sf Q H locs cells slots ls cx hr he wh hS hl hz)⟩
theorem ru_baload {β : Type} {z : β} {f : Int32 → Option β} {r : Nat} {i : Int32} (h : (ab_ld m 2 r i).bind f = some z) (hd : decode cc pc = .ok (.baload, 1))
    (kk : ∀ v, f v = some z → ab_W l g cc own nL rt hh ini d o m' (pc + 1) L (.int v :: st) m) : ab_W l g cc own nL rt hh ini d o m' pc L (.int i :: .ref r :: st) m := by
  obtain ⟨v, h1, h2⟩ := Option.bind_eq_some_iff.mp h
  obtain ⟨n, fs, h3, h4, rfl⟩ := ab_ld_spec h1
  have k1 := kk _ h2
  exact ⟨k1.1, fun p e R s mi args below meth c A cf sf Q H locs cells slots ls cx hr he wh hS hl hz => va_bald cx.1 cx.2.1 cx.2.2.2.2.2.2.2.1.2.1 wh.1 r 1 (ab_ws_of h3) rfl h4 hd (k1.2 p e R s mi args below meth c A cf sf Q H locs cells slots ls cx hr he wh hS hl hz)⟩
theorem ru_zaload {β : Type} {z : β} {f : Int32 → Option β} {r : Nat} {i : Int32} (h : (ab_ld m 3 r i).bind f = some z) (hd : decode cc pc = .ok (.baload, 1))
    (kk : ∀ v, f v = some z → ab_W l g cc own nL rt hh ini d o m' (pc + 1) L (.int v :: st) m) : ab_W l g cc own nL rt hh ini d o m' pc L (.int i :: .ref r :: st) m := by
  obtain ⟨v, h1, h2⟩ := Option.bind_eq_some_iff.mp h
  obtain ⟨n, fs, h3, h4, rfl⟩ := ab_ld_spec h1
  have k1 := kk _ h2
  exact ⟨k1.1, fun p e R s mi args below meth c A cf sf Q H locs cells slots ls cx hr he wh hS hl hz => va_zald cx.1 cx.2.1 cx.2.2.2.2.2.2.2.1.2.1 wh.1 r 2 (ab_ws_of h3) rfl h4 hd (k1.2 p e R s mi args below meth c A cf sf Q H locs cells slots ls cx hr he wh hS hl hz)⟩
theorem ru_laload {β : Type} {z : β} {f : Int64 → Option β} {r : Nat} {i : Int32} (h : (ab_ldJ m r i).bind f = some z) (hd : decode cc pc = .ok (.laload, 1))
    (kk : ∀ v, f v = some z → ab_W l g cc own nL rt hh ini d o m' (pc + 1) L (.long v :: st) m) : ab_W l g cc own nL rt hh ini d o m' pc L (.int i :: .ref r :: st) m := by
  obtain ⟨v, h1, h2⟩ := Option.bind_eq_some_iff.mp h
  obtain ⟨n, fs, h3, h4, rfl⟩ := ab_ldJ_spec h1
  have k1 := kk _ h2
  exact ⟨k1.1, fun p e R s mi args below meth c A cf sf Q H locs cells slots ls cx hr he wh hS hl hz => va_lald cx.1 cx.2.1 cx.2.2.2.2.2.2.2.1.2.1 wh.1 r 3 (ab_ws_of h3) rfl h4 hd (k1.2 p e R s mi args below meth c A cf sf Q H locs cells slots ls cx hr he wh hS hl hz)⟩
theorem ru_aaload {β : Type} {z : β} {f : Nat → Option β} {r : Nat} {i : Int32} (h : (ab_ldR m r i).bind f = some z) (hd : decode cc pc = .ok (.aaload, 1))
    (kk : ∀ v, f v = some z → ab_W l g cc own nL rt hh ini d o m' (pc + 1) L (.ref v :: st) m) : ab_W l g cc own nL rt hh ini d o m' pc L (.int i :: .ref r :: st) m := by
  obtain ⟨v, h1, h2⟩ := Option.bind_eq_some_iff.mp h
  obtain ⟨n, fs, h3, h4, h5⟩ := ab_ldR_spec h1
  have k1 := kk _ h2
  refine ⟨k1.1, fun p e R s mi args below meth c A cf sf Q H locs cells slots ls cx hr he wh hS hl hz => va_aldq cx.1 cx.2.1 cx.2.2.2.2.2.2.2.1.2.1 wh.1 r 4 (ab_ws_of h3) rfl h4 hd ?_⟩
  show W p l e R s mi args below meth c H locs cells slots Q (F0 mi (pc + 1) ls (va_rf (ab_rf g fs[i.toNatClampNeg]?) :: ab_s g st))
  rw [h5]
  exact k1.2 p e R s mi args below meth c A cf sf Q H locs cells slots ls cx hr he wh hS hl hz
theorem ru_alen {β : Type} {z : β} {f : Int32 → Option β} {r : Nat} (kd : Nat) (h : (ab_len m (kd + 1) r).bind f = some z) (hd : decode cc pc = .ok (.arraylength, 1))
    (kk : ∀ v, f v = some z → ab_W l g cc own nL rt hh ini d o m' (pc + 1) L (.int v :: st) m) : ab_W l g cc own nL rt hh ini d o m' pc L (.ref r :: st) m := by
  obtain ⟨v, h1, h2⟩ := Option.bind_eq_some_iff.mp h
  obtain ⟨n, fs, h3, h4⟩ := ab_len_spec h1
  have k1 := kk _ h2
  refine ⟨k1.1, fun p e R s mi args below meth c A cf sf Q H locs cells slots ls cx hr he wh hS hl hz => ?_⟩
  have k0 := k1.2 p e R s mi args below meth c A cf sf Q H locs cells slots ls cx hr he wh hS hl hz
  have hw := ab_ws_of (g := g) h3
  match kd, hw with
  | 0, hw => exact va_alen cx.1 cx.2.1 cx.2.2.2.2.2.2.2.1.2.1 wh.1 r 0 hw rfl h4 hd k0
  | 1, hw => exact va_alen cx.1 cx.2.1 cx.2.2.2.2.2.2.2.1.2.1 wh.1 r 1 hw rfl h4 hd k0
  | 2, hw => exact va_alen cx.1 cx.2.1 cx.2.2.2.2.2.2.2.1.2.1 wh.1 r 2 hw rfl h4 hd k0
  | 3, hw => exact va_alen cx.1 cx.2.1 cx.2.2.2.2.2.2.2.1.2.1 wh.1 r 3 hw rfl h4 hd k0
  | kd + 4, hw => exact va_alen cx.1 cx.2.1 cx.2.2.2.2.2.2.2.1.2.1 wh.1 r 4 hw rfl h4 hd k0
theorem ru_iastore {β : Type} {z : β} {f : ab_Mm → Option β} {r : Nat} {i x : Int32} (h : (ab_st m 1 r i x).bind f = some z) (hd : decode cc pc = .ok (.iastore, 1))
    (kk : ∀ m1, f m1 = some z → ab_W l g cc own nL rt hh ini d o m' (pc + 1) L st m1) : ab_W l g cc own nL rt hh ini d o m' pc L (.int x :: .int i :: .ref r :: st) m := by
  obtain ⟨m1, h1, h2⟩ := Option.bind_eq_some_iff.mp h
  obtain ⟨n, fs, h3, h4, rfl⟩ := ab_st_spec h1
  have k1 := kk _ h2
  refine ⟨k1.1, fun p e R s mi args below meth c A cf sf Q H locs cells slots ls cx hr he wh hS hl hz => ?_⟩
  refine va_iast cx.1 cx.2.1 cx.2.2.2.2.2.2.2.1.2.1 wh.1 wh.2.1 hS r 0 (ab_ws_of h3) rfl h4 hd (fun H1 locs1 hP hD hS1 => ?_)
  refine k1.2 p e R s mi args below meth c A cf sf Q H1 locs1 cells slots ls cx hr he (ab_WH_set (m := m) (r := r) (sh := (1, n, fs)) wh (ab_set_same h3).symm (fun a ha => ab_u_off _ _ _ ha) (fun a ha => rfl) ?_ ?_) hS1 hl hz
  · show va_P g.1 vwCl ((ab_ws g m).set r (g.2.2.1 r, .inl (g.2.1 0, n, .inl (ab_u m.2.1 r i.toNatClampNeg x r)))) H1
    rw [ab_upd_row]; exact hP
  · show va_D A ((ab_ws g m).set r (g.2.2.1 r, .inl (g.2.1 0, n, .inl (ab_u m.2.1 r i.toNatClampNeg x r))))
    rw [ab_upd_row]; exact hD
theorem ru_bastore {β : Type} {z : β} {f : ab_Mm → Option β} {r : Nat} {i x : Int32} (h : (ab_st m 2 r i x.toInt8.toInt32).bind f = some z) (hd : decode cc pc = .ok (.bastore, 1))
    (kk : ∀ m1, f m1 = some z → ab_W l g cc own nL rt hh ini d o m' (pc + 1) L st m1) : ab_W l g cc own nL rt hh ini d o m' pc L (.int x :: .int i :: .ref r :: st) m := by
  obtain ⟨m1, h1, h2⟩ := Option.bind_eq_some_iff.mp h
  obtain ⟨n, fs, h3, h4, rfl⟩ := ab_st_spec h1
  have k1 := kk _ h2
  refine ⟨k1.1, fun p e R s mi args below meth c A cf sf Q H locs cells slots ls cx hr he wh hS hl hz => ?_⟩
  refine va_bast cx.1 cx.2.1 cx.2.2.2.2.2.2.2.1.2.1 wh.1 wh.2.1 hS r 1 (ab_ws_of h3) rfl h4 hd (fun H1 locs1 hP hD hS1 => ?_)
  rw [vp_nar_byte] at hP hD
  refine k1.2 p e R s mi args below meth c A cf sf Q H1 locs1 cells slots ls cx hr he (ab_WH_set (m := m) (r := r) (sh := (2, n, fs)) wh (ab_set_same h3).symm (fun a ha => ab_u_off _ _ _ ha) (fun a ha => rfl) ?_ ?_) hS1 hl hz
  · show va_P g.1 vwCl ((ab_ws g m).set r (g.2.2.1 r, .inl (g.2.1 1, n, .inl (ab_u m.2.1 r i.toNatClampNeg _ r)))) H1
    rw [ab_upd_row]; exact hP
  · show va_D A ((ab_ws g m).set r (g.2.2.1 r, .inl (g.2.1 1, n, .inl (ab_u m.2.1 r i.toNatClampNeg _ r))))
    rw [ab_upd_row]; exact hD
theorem ab_nar_z (x : Int32) : vp_nar .boolean x = x &&& 1 := rfl
theorem ru_zastore {β : Type} {z : β} {f : ab_Mm → Option β} {r : Nat} {i x : Int32} (h : (ab_st m 3 r i (x &&& 1)).bind f = some z) (hd : decode cc pc = .ok (.bastore, 1))
    (kk : ∀ m1, f m1 = some z → ab_W l g cc own nL rt hh ini d o m' (pc + 1) L st m1) : ab_W l g cc own nL rt hh ini d o m' pc L (.int x :: .int i :: .ref r :: st) m := by
  obtain ⟨m1, h1, h2⟩ := Option.bind_eq_some_iff.mp h
  obtain ⟨n, fs, h3, h4, rfl⟩ := ab_st_spec h1
  have k1 := kk _ h2
  refine ⟨k1.1, fun p e R s mi args below meth c A cf sf Q H locs cells slots ls cx hr he wh hS hl hz => ?_⟩
  refine va_zast cx.1 cx.2.1 cx.2.2.2.2.2.2.2.1.2.1 wh.1 wh.2.1 hS r 2 (ab_ws_of h3) rfl h4 hd (fun H1 locs1 hP hD hS1 => ?_)
  rw [ab_nar_z] at hP hD
  refine k1.2 p e R s mi args below meth c A cf sf Q H1 locs1 cells slots ls cx hr he (ab_WH_set (m := m) (r := r) (sh := (3, n, fs)) wh (ab_set_same h3).symm (fun a ha => ab_u_off _ _ _ ha) (fun a ha => rfl) ?_ ?_) hS1 hl hz
  · show va_P g.1 vwCl ((ab_ws g m).set r (g.2.2.1 r, .inl (g.2.1 2, n, .inl (ab_u m.2.1 r i.toNatClampNeg _ r)))) H1
    rw [ab_upd_row]; exact hP
  · show va_D A ((ab_ws g m).set r (g.2.2.1 r, .inl (g.2.1 2, n, .inl (ab_u m.2.1 r i.toNatClampNeg _ r))))
    rw [ab_upd_row]; exact hD
theorem ru_lastore {β : Type} {z : β} {f : ab_Mm → Option β} {r : Nat} {i : Int32} {x : Int64} (h : (ab_stJ m r i x).bind f = some z) (hd : decode cc pc = .ok (.lastore, 1))
    (kk : ∀ m1, f m1 = some z → ab_W l g cc own nL rt hh ini d o m' (pc + 1) L st m1) : ab_W l g cc own nL rt hh ini d o m' pc L (.long x :: .int i :: .ref r :: st) m := by
  obtain ⟨m1, h1, h2⟩ := Option.bind_eq_some_iff.mp h
  obtain ⟨n, fs, h3, h4, rfl⟩ := ab_stJ_spec h1
  have k1 := kk _ h2
  refine ⟨k1.1, fun p e R s mi args below meth c A cf sf Q H locs cells slots ls cx hr he wh hS hl hz => ?_⟩
  refine va_last cx.1 cx.2.1 cx.2.2.2.2.2.2.2.1.2.1 wh.1 wh.2.1 hS r 3 (ab_ws_of h3) rfl h4 hd (fun H1 locs1 hP hD hS1 => ?_)
  refine k1.2 p e R s mi args below meth c A cf sf Q H1 locs1 cells slots ls cx hr he (ab_WH_set (m := m) (r := r) (sh := (4, n, fs)) wh (ab_set_same h3).symm (fun a ha => rfl) (fun a ha => ab_u_off _ _ _ ha) ?_ ?_) hS1 hl hz
  · show va_P g.1 vwCl ((ab_ws g m).set r (g.2.2.1 r, .inl (g.2.1 3, n, .inr (.inl (ab_u m.2.2.1 r i.toNatClampNeg x r))))) H1
    rw [ab_updL_row]; exact hP
  · show va_D A ((ab_ws g m).set r (g.2.2.1 r, .inl (g.2.1 3, n, .inr (.inl (ab_u m.2.2.1 r i.toNatClampNeg x r)))))
    rw [ab_updL_row]; exact hD
/-! copies -/
def ab_cp {α : Type} (I : Nat → Nat → α) (r0 sp r1 dp n : Nat) : Nat → Nat → α := fun a b => if a = r1 ∧ dp ≤ b ∧ b < dp + n then I r0 (sp + (b - dp)) else I a b
def ab_cpI (m : ab_Mm) (r0 : Nat) (sp : Int32) (r1 : Nat) (dp n : Int32) : Option ab_Mm := match m.1[r0]?, m.1[r1]? with
  | some (k0, n0, _), some (k1, n1, _) => if k0 = 1 ∧ k1 = 1 ∧ ¬ sp < 0 ∧ ¬ dp < 0 ∧ ¬ n < 0 ∧ sp.toNatClampNeg + n.toNatClampNeg ≤ n0 ∧ dp.toNatClampNeg + n.toNatClampNeg ≤ n1 then some (m.1, ab_cp m.2.1 r0 sp.toNatClampNeg r1 dp.toNatClampNeg n.toNatClampNeg, m.2.2.1, m.2.2.2) else none
  | _, _ => none
def ab_cpJ (m : ab_Mm) (r0 : Nat) (sp : Int32) (r1 : Nat) (dp n : Int32) : Option ab_Mm := match m.1[r0]?, m.1[r1]? with
  | some (k0, n0, _), some (k1, n1, _) => if k0 = 4 ∧ k1 = 4 ∧ ¬ sp < 0 ∧ ¬ dp < 0 ∧ ¬ n < 0 ∧ sp.toNatClampNeg + n.toNatClampNeg ≤ n0 ∧ dp.toNatClampNeg + n.toNatClampNeg ≤ n1 then some (m.1, m.2.1, ab_cp m.2.2.1 r0 sp.toNatClampNeg r1 dp.toNatClampNeg n.toNatClampNeg, m.2.2.2) else none
  | _, _ => none
theorem ab_cp_row {α : Type} (I : Nat → Nat → α) (r0 sp r1 dp n : Nat) : ab_cp I r0 sp r1 dp n r1 = va_cpy (I r0) (I r1) sp dp n := by
  funext b
  simp [ab_cp, va_cpy]
theorem ab_cp_off {α : Type} (I : Nat → Nat → α) {a r1 : Nat} (r0 sp dp n : Nat) (h : a ≠ r1) : ab_cp I r0 sp r1 dp n a = I a := by
  funext b
  simp [ab_cp, h]
theorem ru_copyI {β : Type} {z : β} {f : ab_Mm → Option β} {r0 r1 index : Nat} {sp dp n : Int32} (h : (ab_cpI m r0 sp r1 dp n).bind f = some z) (hd : decode cc pc = .ok (.invokestatic index, 3)) (hw : Cond.methodLink own index arraycopyName ∈ ab_tb ∧ Cond.native arraycopyName ∈ ab_tb ∧ Cond.static arraycopyName ∈ ab_tb ∧ Cond.initialized "java/lang/System" ∈ ab_tb) (hcat : (st.map fun v => v.category).sum ≤ 8)
    (kk : ∀ m1, f m1 = some z → ab_W l g cc own nL rt hh ini d o m' (pc + 3) L st m1) : ab_W l g cc own nL rt hh ini d o m' pc L (.int n :: .int dp :: .ref r1 :: .int sp :: .ref r0 :: st) m := by
  obtain ⟨m1, h1, h2⟩ := Option.bind_eq_some_iff.mp h
  have k1 := kk _ h2
  unfold ab_cpI at h1
  split at h1
  · rename_i k0 n0 fs0 kk1 n1 fs1 e0 e1
    split at h1
    · rename_i hc
      obtain ⟨rfl, rfl, c1, c2, c3, c4, c5⟩ := hc
      cases h1
      refine ⟨k1.1, fun p e R s mi args below meth c A cf sf Q H locs cells slots ls cx hr he wh hS hl hz => ?_⟩
      have hcat2 := ab_cat g hcat
      refine va_copyi cx.1 cx.2.1 (cx.2.2.1.trans hl.1.symm) cx.2.2.2.1 (cx.2.2.2.2.2.2.1 _ hw.1) (cx.2.2.2.2.2.2.1 _ hw.2.1) (cx.2.2.2.2.2.2.1 _ hw.2.2.1) (cx.2.2.2.2.2.2.1 _ hw.2.2.2) cx.2.2.2.2.2.2.2.1.2.1 wh.1 wh.2.1 hS r0 r1 0 0 (ab_ws_of e0) (ab_ws_of e1) rfl rfl rfl c1 c2 c3 c4 c5 (fun _ _ => rfl) (by omega) ?_ hd (fun H1 locs1 hP hD hS1 => ?_)
      · have hn : nativeFrameWords "java/lang/System" "arraycopy" 5 ≤ 100 := by decide
        have := hr.2.1
        omega
      · refine k1.2 p e R s mi args below meth c A cf sf Q H1 locs1 cells slots ls cx hr he (ab_WH_set (m := m) (r := r1) (sh := (1, n1, fs1)) wh (ab_set_same e1).symm (fun a ha => ab_cp_off _ _ _ _ _ ha) (fun a ha => rfl) ?_ ?_) hS1 hl hz
        · show va_P g.1 vwCl ((ab_ws g m).set r1 (g.2.2.1 r1, .inl (g.2.1 0, n1, .inl (ab_cp m.2.1 r0 _ r1 _ _ r1)))) H1
          rw [ab_cp_row]; exact hP
        · show va_D A ((ab_ws g m).set r1 (g.2.2.1 r1, .inl (g.2.1 0, n1, .inl (ab_cp m.2.1 r0 _ r1 _ _ r1))))
          rw [ab_cp_row]; exact hD
    · cases h1
  · cases h1
theorem ru_copyJ {β : Type} {z : β} {f : ab_Mm → Option β} {r0 r1 index : Nat} {sp dp n : Int32} (h : (ab_cpJ m r0 sp r1 dp n).bind f = some z) (hd : decode cc pc = .ok (.invokestatic index, 3)) (hw : Cond.methodLink own index arraycopyName ∈ ab_tb ∧ Cond.native arraycopyName ∈ ab_tb ∧ Cond.static arraycopyName ∈ ab_tb ∧ Cond.initialized "java/lang/System" ∈ ab_tb) (hcat : (st.map fun v => v.category).sum ≤ 8)
    (kk : ∀ m1, f m1 = some z → ab_W l g cc own nL rt hh ini d o m' (pc + 3) L st m1) : ab_W l g cc own nL rt hh ini d o m' pc L (.int n :: .int dp :: .ref r1 :: .int sp :: .ref r0 :: st) m := by
  obtain ⟨m1, h1, h2⟩ := Option.bind_eq_some_iff.mp h
  have k1 := kk _ h2
  unfold ab_cpJ at h1
  split at h1
  · rename_i k0 n0 fs0 kk1 n1 fs1 e0 e1
    split at h1
    · rename_i hc
      obtain ⟨rfl, rfl, c1, c2, c3, c4, c5⟩ := hc
      cases h1
      refine ⟨k1.1, fun p e R s mi args below meth c A cf sf Q H locs cells slots ls cx hr he wh hS hl hz => ?_⟩
      have hcat2 := ab_cat g hcat
      refine va_copyl cx.1 cx.2.1 (cx.2.2.1.trans hl.1.symm) cx.2.2.2.1 (cx.2.2.2.2.2.2.1 _ hw.1) (cx.2.2.2.2.2.2.1 _ hw.2.1) (cx.2.2.2.2.2.2.1 _ hw.2.2.1) (cx.2.2.2.2.2.2.1 _ hw.2.2.2) cx.2.2.2.2.2.2.2.1.2.1 wh.1 wh.2.1 hS r0 r1 3 3 (ab_ws_of e0) (ab_ws_of e1) rfl rfl rfl c1 c2 c3 c4 c5 (fun _ _ => rfl) (by omega) ?_ hd (fun H1 locs1 hP hD hS1 => ?_)
      · have hn : nativeFrameWords "java/lang/System" "arraycopy" 5 ≤ 100 := by decide
        have := hr.2.1
        omega
      · refine k1.2 p e R s mi args below meth c A cf sf Q H1 locs1 cells slots ls cx hr he (ab_WH_set (m := m) (r := r1) (sh := (4, n1, fs1)) wh (ab_set_same e1).symm (fun a ha => rfl) (fun a ha => ab_cp_off _ _ _ _ _ ha) ?_ ?_) hS1 hl hz
        · show va_P g.1 vwCl ((ab_ws g m).set r1 (g.2.2.1 r1, .inl (g.2.1 3, n1, .inr (.inl (ab_cp m.2.2.1 r0 _ r1 _ _ r1))))) H1
          rw [ab_cp_row]; exact hP
        · show va_D A ((ab_ws g m).set r1 (g.2.2.1 r1, .inl (g.2.1 3, n1, .inr (.inl (ab_cp m.2.2.1 r0 _ r1 _ _ r1)))))
          rw [ab_cp_row]; exact hD
    · cases h1
  · cases h1
theorem ru_mmax {x y : Int32} {index : Nat} (hd : decode cc pc = .ok (.invokestatic index, 3)) (hw : Cond.methodLink own index Lib.Math.max.name ∈ ab_tb ∧ Cond.static Lib.Math.max.name ∈ ab_tb ∧ Cond.initialized "java/lang/Math" ∈ ab_tb ∧ Cond.code Lib.Math.max.name Lib.Math.max.code 2 (some .int) ∈ ab_tb) (hcat : (st.map fun v => v.category).sum ≤ 8)
    (k : ab_W l g cc own nL rt hh ini d o m' (pc + 3) L (.int (if x < y then y else x) :: st) m) : ab_W l g cc own nL rt hh ini d o m' pc L (.int y :: .int x :: st) m := by
  refine ⟨k.1, fun p e R s mi args below meth c A cf sf Q H locs cells slots ls cx hr he wh hS hl hz => ?_⟩
  have hcat2 := ab_cat g hcat
  have q1 := hr.2.1
  have q2 := hz.1
  have q3 := hz.2.1
  have q4 := k.1
  exact va_mmax cx.1 cx.2.1 (cx.2.2.1.trans hl.1.symm) cx.2.2.2.1 (cx.2.2.2.2.2.2.1 _ hw.1) (cx.2.2.2.2.2.2.1 _ hw.2.1) (cx.2.2.2.2.2.2.1 _ hw.2.2.1) (cx.2.2.2.2.2.2.1 _ hw.2.2.2) (by omega) (by omega) (by have := hr.2.2.1; have := q4.1; omega) (by have := hr.2.2.2; have := q4.2.1; omega) hd (k.2 p e R s mi args below meth c A cf sf Q H locs cells slots ls cx hr he wh hS hl hz)
theorem ru_mmin {x y : Int32} {index : Nat} (hd : decode cc pc = .ok (.invokestatic index, 3)) (hw : Cond.methodLink own index Lib.Math.min.name ∈ ab_tb ∧ Cond.static Lib.Math.min.name ∈ ab_tb ∧ Cond.initialized "java/lang/Math" ∈ ab_tb ∧ Cond.code Lib.Math.min.name Lib.Math.min.code 2 (some .int) ∈ ab_tb) (hcat : (st.map fun v => v.category).sum ≤ 8)
    (k : ab_W l g cc own nL rt hh ini d o m' (pc + 3) L (.int (if y < x then y else x) :: st) m) : ab_W l g cc own nL rt hh ini d o m' pc L (.int y :: .int x :: st) m := by
  refine ⟨k.1, fun p e R s mi args below meth c A cf sf Q H locs cells slots ls cx hr he wh hS hl hz => ?_⟩
  have hcat2 := ab_cat g hcat
  have q1 := hr.2.1
  have q2 := hz.1
  have q3 := hz.2.1
  have q4 := k.1
  exact va_mmin cx.1 cx.2.1 (cx.2.2.1.trans hl.1.symm) cx.2.2.2.1 (cx.2.2.2.2.2.2.1 _ hw.1) (cx.2.2.2.2.2.2.1 _ hw.2.1) (cx.2.2.2.2.2.2.1 _ hw.2.2.1) (cx.2.2.2.2.2.2.1 _ hw.2.2.2) (by omega) (by omega) (by have := hr.2.2.1; have := q4.1; omega) (by have := hr.2.2.2; have := q4.2.1; omega) hd (k.2 p e R s mi args below meth c A cf sf Q H locs cells slots ls cx hr he wh hS hl hz)
end RA
