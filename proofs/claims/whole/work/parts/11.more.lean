/-! ===== the rows of the logic: arrays of references, strings, the script, Object's constructor ===== -/
def ab_stR (m : ab_Mm) (r : Nat) (i : Int32) (q : Nat) : Option ab_Mm := match m.1[r]?, m.1[q]? with
  | some (k, n, fs), some (k2, c2, _) => if k = 5 ∧ k2 = 0 ∧ c2 = 8 ∧ ¬ (i < 0 ∨ n ≤ i.toNatClampNeg) ∧ i.toNatClampNeg < fs.length then some (m.1.set r (5, n, fs.set i.toNatClampNeg (some (some q))), m.2.1, m.2.2.1, m.2.2.2) else none
  | _, _ => none
/-- the words: String objects are 1000, 1002 .., their bytes 1001, 1003 .. -/
def ab_sv (r : Nat) : Option Nat := if 1000 ≤ r ∧ r < 1048 ∧ r % 2 = 0 then some (r + 1) else none
def ab_sc (r : Nat) : Option Int32 := if 1000 ≤ r ∧ r < 1048 ∧ r % 2 = 0 then some 0 else none
def ab_sl1 (r : Nat) : Option Int32 := if 1000 ≤ r ∧ r < 1048 ∧ r % 2 = 1 then some (Int32.ofNat (ab_by.getD ((r - 1001) / 2) []).length) else none
def ab_sb (r : Nat) (i : Int32) : Option Int32 := if 1000 ≤ r ∧ r < 1048 ∧ r % 2 = 1 ∧ ¬ (i < 0 ∨ (ab_by.getD ((r - 1001) / 2) []).length ≤ i.toNatClampNeg) then some ((ab_by.getD ((r - 1001) / 2) []).getD i.toNatClampNeg 0) else none
section RM
variable {l : Launch} {g : ab_G} {cc : ByteArray} {own : String} {nL : Nat} {rt : Option FieldType} {hh : List (Nat × Nat × Nat × Nat)} {ini : Bool} {d : Nat} {o : ab_O} {m' : ab_Mm} {pc : Nat} {L : ab_L} {st : List Value} {m : ab_Mm}
theorem ru_anew {β : Type} {z : β} {f : Nat × ab_Mm → Option β} {n : Int32} {index : Nat} (h : (ab_nq m n).bind f = some z) (hd : decode cc pc = .ok (.anewarray index, 3)) (hw : Cond.classLink own index RX8 ∈ ab_tb)
    (kk : ∀ q, f q = some z → ab_W l g cc own nL rt hh ini d o m' (pc + 3) L (.ref q.1 :: st) q.2) : ab_W l g cc own nL rt hh ini d o m' pc L (.int n :: st) m := by
  obtain ⟨q, h1, h2⟩ := Option.bind_eq_some_iff.mp h
  unfold ab_nq at h1
  split at h1
  · rename_i hc
    obtain ⟨hx, hlt, rfl⟩ := ab_nw_spec h1
    have k1 := kk _ h2
    dsimp only at k1
    have hnc := ab_mk_nc m (5, n.toNatClampNeg, List.replicate n.toNatClampNeg (some none))
    have hns : ab_ns (ab_mk m (5, n.toNatClampNeg, List.replicate n.toNatClampNeg (some none))) = ab_ns m + n.toNatClampNeg := ab_mk_ns m (5, n.toNatClampNeg, List.replicate n.toNatClampNeg (some none))
    have hmo := k1.1
    refine ⟨⟨by have := hmo.1; omega, by have := hmo.2.1; omega, hmo.2.2⟩, fun p e R s mi args below meth c A cf sf Q H locs cells slots ls cx hr he wh hS hl hzz => ?_⟩
    refine ab_Wsz (fun hsz => ?_)
    have hex := ab_exact wh cx.2.2.2.2.2.2.2.1 hS hsz (hzz.2.2 hx) hlt
    have hts := cx.2.2.2.2.2.2.1
    have hE := cx.2.2.2.2.2.2.2.1
    have hK := hE.2.1
    refine W.anew cx.1 cx.2.1 cx.2.2.2.1 (hts _ hw) (va_AO.use hE.2.2.2.2.2.2.2.2.2.1) rfl hd rfl hc.1 (by omega) (by have := hmo.1; have := hzz.1; have := hr.2.2.1; omega) (by have := hmo.2.1; have := hzz.2.1; have := hr.2.2.2; omega) fun cA kA comp f1 f2 f3 f4 => ?_
    generalize hH1 : H.push ({ cls := cA, slots := Array.replicate n.toNatClampNeg .null, vm := .none } : Cell) = H1
    have z1 : H1.size = H.size + 1 := by rw [← hH1, Array.size_push]
    have e1 : H1[H.size]? = some (arrV cA n.toNatClampNeg (fun _ => .null)) := by rw [← hH1, Array.getElem?_push_size, ← arrV_new]
    have o1 : ∀ q : Nat, q < H.size → H1[q]? = H[q]? := fun q hq => by rw [← hH1, Array.getElem?_push, if_neg (Nat.ne_of_lt hq)]
    obtain ⟨kA2, comp2, w1, w2, w3, w4⟩ := (hK.2 4 _ rfl).2
    have hcA : cA = g.2.1 4 := Option.some.inj (f1.symm.trans w4)
    subst hcA
    have wh1 : ab_WH g (ab_mk m (5, n.toNatClampNeg, List.replicate n.toNatClampNeg (some none))) A H1 := by
      refine ab_WH_push wh hlt hex ?_ o1 (cx.2.2.2.2.2.2.2.2.1 _ hS.1)
      show H1[H.size]? = some (vp_cell (g.2.1 4) (n.toNatClampNeg, .inr (.inr (.inr (.inr (fun i => ab_rf g (List.replicate n.toNatClampNeg (some none))[i]?))))))
      rw [vp_cell_q, e1]
      congr 2
      funext j
      rw [List.getElem?_replicate]
      split <;> rfl
    have hS1 : va_S A s.heap H1 locs := ⟨Nat.le_trans hS.1 (by omega), fun x q1 q2 => (o1 x (Nat.lt_of_lt_of_le q1 hS.1)).trans (hS.2.1 x q1 q2), hS.2.2⟩
    have k2 := k1.2 p e R s mi args below meth c A cf sf Q H1 locs (cells + 1) (slots + n.toNatClampNeg) ls cx hr he wh1 hS1 hl ⟨by have := hzz.1; omega, by have := hzz.2.1; omega, fun q => by
      have := hzz.2.2 hx
      show _ ≤ _ + (m.1 ++ [_]).length
      rw [List.length_append]
      show _ ≤ _ + (m.1.length + 1)
      omega⟩
    have e2 : ab_s g (.ref m.1.length :: st) = .ref H.size :: ab_s g st := by
      show Value.ref (g.2.2.1 m.1.length) :: _ = _
      rw [hex]
    rw [e2] at k2
    exact k2
  · cases h1
theorem ru_aastore {β : Type} {z : β} {f : ab_Mm → Option β} {r q : Nat} {i : Int32} (h : (ab_stR m r i q).bind f = some z) (hd : decode cc pc = .ok (.aastore, 1))
    (kk : ∀ m1, f m1 = some z → ab_W l g cc own nL rt hh ini d o m' (pc + 1) L st m1) : ab_W l g cc own nL rt hh ini d o m' pc L (.ref q :: .int i :: .ref r :: st) m := by
  obtain ⟨m1, h1, h2⟩ := Option.bind_eq_some_iff.mp h
  have k1 := kk _ h2
  unfold ab_stR at h1
  split at h1
  · rename_i k n fs k2 c2 fs2 e0 e1
    split at h1
    · rename_i hc
      obtain ⟨rfl, rfl, rfl, hin, hlen⟩ := hc
      cases h1
      have hns : ab_ns (m.1.set r (5, n, fs.set i.toNatClampNeg (some (some q))), m.2.1, m.2.2.1, m.2.2.2) = ab_ns m := by
        show ((m.1.set r (5, n, fs.set i.toNatClampNeg (some (some q)))).map ab_z).sum + _ = (m.1.map ab_z).sum + _
        have e2 : (m.1.map ab_z)[r]? = some (ab_z (5, n, fs)) := by rw [List.getElem?_map, e0]; rfl
        have e3 : ab_z (5, n, fs.set i.toNatClampNeg (some (some q))) = ab_z (5, n, fs) := rfl
        rw [List.map_set, e3, ab_set_same e2]
      have hnc : ab_nc (m.1.set r (5, n, fs.set i.toNatClampNeg (some (some q))), m.2.1, m.2.2.1, m.2.2.2) = ab_nc m := by
        show (m.1.set r _).length + _ = m.1.length + _
        rw [List.length_set]
      refine ⟨⟨by rw [← hnc]; exact k1.1.1, by rw [← hns]; exact k1.1.2.1, k1.1.2.2⟩, fun p e R s mi args below meth c A cf sf Q H locs cells slots ls cx hr he wh hS hl hz => ?_⟩
      have k0 := fun H1 locs1 w1 s1 => k1.2 p e R s mi args below meth c A cf sf Q H1 locs1 cells slots ls cx hr he w1 s1 hl ⟨by rw [hnc]; exact hz.1, by rw [hns]; exact hz.2.1, by show _ → _ ≤ _ + (m.1.set r _).length; rw [List.length_set]; exact hz.2.2⟩
      have e5 : ab_e g (m.2.1 r) (m.2.2.1 r) (5, n, fs.set i.toNatClampNeg (some (some q))) = .inl (g.2.1 4, n, .inr (.inr (.inr (.inr (va_up (fun i => ab_rf g fs[i]?) i.toNatClampNeg (some (g.2.2.1 q))))))) := by
        show Sum.inl (g.2.1 4, n, Sum.inr (Sum.inr (Sum.inr (Sum.inr (fun j => ab_rf g (fs.set i.toNatClampNeg (some (some q)))[j]?))))) = _
        have e6 : (fun j => ab_rf g (fs.set i.toNatClampNeg (some (some q)))[j]?) = va_up (fun i => ab_rf g fs[i]?) i.toNatClampNeg (some (g.2.2.1 q)) := by
          funext j
          rw [List.getElem?_set]
          by_cases hj : i.toNatClampNeg = j
          · subst hj
            simp [hlen, va_up, ab_rf]
          · have hj2 : ¬ j = i.toNatClampNeg := fun e => hj e.symm
            simp [hj, hj2, va_up]
        rw [e6]
      refine va_astq cx.1 cx.2.1 cx.2.2.2.2.2.2.2.1.2.1 wh.1 wh.2.1 hS r 4 q 8 (ab_ws_of e0) (r := (RX8, TX8, 7)) rfl (ab_ws_of e1) rfl hin hd (fun H1 locs1 hP hD hS1 => ?_)
      refine k0 H1 locs1 (ab_WH_set (m := m) (r := r) (sh := (5, n, fs.set i.toNatClampNeg (some (some q)))) wh rfl (fun a ha => rfl) (fun a ha => rfl) ?_ ?_) hS1
      · show va_P g.1 vwCl ((ab_ws g m).set r (g.2.2.1 r, ab_e g (m.2.1 r) (m.2.2.1 r) (5, n, fs.set i.toNatClampNeg (some (some q))))) H1
        rw [e5]; exact hP
      · show va_D A ((ab_ws g m).set r (g.2.2.1 r, ab_e g (m.2.1 r) (m.2.2.1 r) (5, n, fs.set i.toNatClampNeg (some (some q)))))
        rw [e5]; exact hD
    · cases h1
  · cases h1
theorem ru_objInit {x index : Nat} (hd : decode cc pc = .ok (.invokespecial index, 3)) (hw : Cond.methodLink own index Lib.objectInit ∈ ab_tb ∧ Cond.instanceMethod Lib.objectInit ∈ ab_tb ∧ Cond.code Lib.objectInit ⟨#[0xb1]⟩ 1 none ∈ ab_tb) (hcat : (st.map fun v => v.category).sum ≤ 8)
    (k : ab_W l g cc own nL rt hh ini d o m' (pc + 3) L st m) : ab_W l g cc own nL rt hh ini d o m' pc L (.ref x :: st) m := by
  refine ⟨k.1, fun p e R s mi args below meth c A cf sf Q H locs cells slots ls cx hr he wh hS hl hz => ?_⟩
  have hcat2 := ab_cat g hcat
  exact W.objInit cx.1 cx.2.1 cx.2.2.2.1 (cx.2.2.2.2.2.2.1 _ hw.1) (cx.2.2.2.2.2.2.1 _ hw.2.1) (cx.2.2.2.2.2.2.1 _ hw.2.2) rfl (hl.1.trans cx.2.2.1.symm) rfl hd (by have := hr.1; omega) (by have := hr.2.1; show 2 * 0 + _ + _ ≤ _; omega) (k.2 p e R s mi args below meth c A cf sf Q H locs cells slots ls cx hr he wh hS hl hz)
/-! strings -/
theorem ab_even {r : Nat} (h : 1000 ≤ r ∧ r < 1048 ∧ r % 2 = 0) : ∃ i, i < 24 ∧ r = 1000 + 2 * i := ⟨(r - 1000) / 2, by omega, by omega⟩
theorem ab_odd {r : Nat} (h1 : 1000 ≤ r) (h2 : r < 1048) (h3 : r % 2 = 1) : ∃ i, i < 24 ∧ r = 1001 + 2 * i ∧ (r - 1001) / 2 = i := ⟨(r - 1001) / 2, by omega, by omega, rfl⟩
theorem ru_sval {β : Type} {z : β} {f : Nat → Option β} {r index : Nat} (h : (ab_sv r).bind f = some z) (hd : decode cc pc = .ok (.getfield index, 3)) (hw : Cond.fieldLink own index "java/lang/String" "value" "[B" ∈ ab_tb)
    (kk : ∀ v, f v = some z → ab_W l g cc own nL rt hh ini d o m' (pc + 3) L (.ref v :: st) m) : ab_W l g cc own nL rt hh ini d o m' pc L (.ref r :: st) m := by
  obtain ⟨v, h1, h2⟩ := Option.bind_eq_some_iff.mp h
  have k1 := kk _ h2
  unfold ab_sv at h1
  split at h1
  · rename_i hc
    obtain ⟨i, hi, rfl⟩ := ab_even hc
    cases h1
    refine ⟨k1.1, fun p e R s mi args below meth c A cf sf Q H locs cells slots ls cx hr he wh hS hl hz => ?_⟩
    have k2 := k1.2 p e R s mi args below meth c A cf sf Q H locs cells slots ls cx hr he wh hS hl hz
    rw [show 1000 + 2 * i + 1 = 1001 + 2 * i by omega] at k2
    exact vk_getf cx.1 cx.2.1 (cx.2.2.2.2.2.2.2.1.2.2.2.2.1 i hi).2.2.1 hS cx.2.2.2.1 (cx.2.2.2.2.2.2.1 _ hw) (fun _ q => q) hd k2
  · cases h1
theorem ru_scod {β : Type} {z : β} {f : Int32 → Option β} {r index : Nat} (h : (ab_sc r).bind f = some z) (hd : decode cc pc = .ok (.getfield index, 3)) (hw : Cond.fieldLink own index "java/lang/String" "coder" "B" ∈ ab_tb)
    (kk : ∀ v, f v = some z → ab_W l g cc own nL rt hh ini d o m' (pc + 3) L (.int v :: st) m) : ab_W l g cc own nL rt hh ini d o m' pc L (.ref r :: st) m := by
  obtain ⟨v, h1, h2⟩ := Option.bind_eq_some_iff.mp h
  have k1 := kk _ h2
  unfold ab_sc at h1
  split at h1
  · rename_i hc
    obtain ⟨i, hi, rfl⟩ := ab_even hc
    cases h1
    refine ⟨k1.1, fun p e R s mi args below meth c A cf sf Q H locs cells slots ls cx hr he wh hS hl hz => ?_⟩
    exact vk_getf cx.1 cx.2.1 (cx.2.2.2.2.2.2.2.1.2.2.2.2.1 i hi).2.1 hS cx.2.2.2.1 (cx.2.2.2.2.2.2.1 _ hw) (fun _ q => q) hd (k1.2 p e R s mi args below meth c A cf sf Q H locs cells slots ls cx hr he wh hS hl hz)
  · cases h1
theorem ru_slen {β : Type} {z : β} {f : Int32 → Option β} {r : Nat} (h : (ab_sl1 r).bind f = some z) (hd : decode cc pc = .ok (.arraylength, 1))
    (kk : ∀ v, f v = some z → ab_W l g cc own nL rt hh ini d o m' (pc + 1) L (.int v :: st) m) : ab_W l g cc own nL rt hh ini d o m' pc L (.ref r :: st) m := by
  obtain ⟨v, h1, h2⟩ := Option.bind_eq_some_iff.mp h
  have k1 := kk _ h2
  unfold ab_sl1 at h1
  split at h1
  · rename_i hc
    obtain ⟨i, hi, rfl, hq⟩ := ab_odd hc.1 hc.2.1 hc.2.2
    rw [hq] at h1
    cases h1
    refine ⟨k1.1, fun p e R s mi args below meth c A cf sf Q H locs cells slots ls cx hr he wh hS hl hz => ?_⟩
    exact va_tlen cx.1 cx.2.1 (cx.2.2.2.2.2.2.2.1.2.2.2.2.1 i hi).2.2.2 hS rfl hd (k1.2 p e R s mi args below meth c A cf sf Q H locs cells slots ls cx hr he wh hS hl hz)
  · cases h1
theorem ru_sbl {β : Type} {z : β} {f : Int32 → Option β} {r : Nat} {j : Int32} (h : (ab_sb r j).bind f = some z) (hd : decode cc pc = .ok (.baload, 1))
    (kk : ∀ v, f v = some z → ab_W l g cc own nL rt hh ini d o m' (pc + 1) L (.int v :: st) m) : ab_W l g cc own nL rt hh ini d o m' pc L (.int j :: .ref r :: st) m := by
  obtain ⟨v, h1, h2⟩ := Option.bind_eq_some_iff.mp h
  have k1 := kk _ h2
  unfold ab_sb at h1
  split at h1
  · rename_i hc
    obtain ⟨i, hi, rfl, hq⟩ := ab_odd hc.1 hc.2.1 hc.2.2.1
    rw [hq] at h1 hc
    cases h1
    refine ⟨k1.1, fun p e R s mi args below meth c A cf sf Q H locs cells slots ls cx hr he wh hS hl hz => ?_⟩
    exact va_tb cx.1 cx.2.1 (cx.2.2.2.2.2.2.2.1.2.2.2.2.1 i hi).2.2.2 hS hc.2.2.2 rfl hd (k1.2 p e R s mi args below meth c A cf sf Q H locs cells slots ls cx hr he wh hS hl hz)
  · cases h1
theorem ru_compact {index : Nat} (hd : decode cc pc = .ok (.getstatic index, 3)) (hw : Cond.fieldLink own index "java/lang/String" "COMPACT_STRINGS" "Z" ∈ ab_tb)
    (k : ab_W l g cc own nL rt hh ini d o m' (pc + 3) L (.int 1 :: st) m) : ab_W l g cc own nL rt hh ini d o m' pc L st m :=
  ⟨k.1, fun p e R s mi args below meth c A cf sf Q H locs cells slots ls cx hr he wh hS hl hz => va_gets cx.1 cx.2.1 cx.2.2.2.2.2.2.2.1.2.2.2.2.2.2.2.1 hS cx.2.2.2.1 (cx.2.2.2.2.2.2.1 _ hw) (fun _ q => q) hd (k.2 p e R s mi args below meth c A cf sf Q H locs cells slots ls cx hr he wh hS hl hz)⟩
/-- String.checkIndex's formatter: null or some object -/
theorem ru_siobe {index : Nat} (hd : decode cc pc = .ok (.getstatic index, 3)) (hw : Cond.fieldLink own index "jdk/internal/util/Preconditions" "SIOOBE_FORMATTER" "Ljava/util/function/BiFunction;" ∈ ab_tb)
    (k1 : ab_W l g cc own nL rt hh ini d o m' (pc + 3) L (.null :: st) m) (k2 : ab_W l g cc own nL rt hh ini d o m' (pc + 3) L (.ref 2001 :: st) m) : ab_W l g cc own nL rt hh ini d o m' pc L st m := by
  refine ⟨k1.1, fun p e R s mi args below meth c A cf sf Q H locs cells slots ls cx hr he wh hS hl hz => ?_⟩
  rcases cx.2.2.2.2.2.2.2.1.2.2.2.2.2.2.2.2.2.2.1.2.2.2 with h | h
  · exact va_gets cx.1 cx.2.1 h hS cx.2.2.2.1 (cx.2.2.2.2.2.2.1 _ hw) (fun _ q => q) hd (k1.2 p e R s mi args below meth c A cf sf Q H locs cells slots ls cx hr he wh hS hl hz)
  · exact va_gets cx.1 cx.2.1 h hS cx.2.2.2.1 (cx.2.2.2.2.2.2.1 _ hw) (fun _ q => q) hd (k2.2 p e R s mi args below meth c A cf sf Q H locs cells slots ls cx hr he wh hS hl hz)
/-! the script: the reference 2000 -/
theorem ru_sld {i : Int32} (hin : ¬ (i < 0 ∨ g.2.2.2.2.1 ≤ i.toNatClampNeg)) (hd : decode cc pc = .ok (.iaload, 1))
    (k : ab_W l g cc own nL rt hh ini d o m' (pc + 1) L (.int (g.2.2.2.2.2 i.toNatClampNeg) :: st) m) : ab_W l g cc own nL rt hh ini d o m' pc L (.int i :: .ref 2000 :: st) m :=
  ⟨k.1, fun p e R s mi args below meth c A cf sf Q H locs cells slots ls cx hr he wh hS hl hz => va_sld cx.1 cx.2.1 cx.2.2.2.2.2.2.2.1.2.2.2.2.2.2.2.2.2.2.1.1 cx.2.2.2.2.2.2.2.1.2.2.2.2.2.2.2.2.2.2.1.2.1 cx.2.2.2.2.2.2.2.1.2.2.2.2.2.2.2.2.2.2.1.2.2.1 hS hin hd (k.2 p e R s mi args below meth c A cf sf Q H locs cells slots ls cx hr he wh hS hl hz)⟩
theorem ru_scl (hd : decode cc pc = .ok (.arraylength, 1))
    (k : ab_W l g cc own nL rt hh ini d o m' (pc + 1) L (.int (Int32.ofNat g.2.2.2.2.1) :: st) m) : ab_W l g cc own nL rt hh ini d o m' pc L (.ref 2000 :: st) m :=
  ⟨k.1, fun p e R s mi args below meth c A cf sf Q H locs cells slots ls cx hr he wh hS hl hz => va_slen cx.1 cx.2.1 cx.2.2.2.2.2.2.2.1.2.2.2.2.2.2.2.2.2.2.1.1 cx.2.2.2.2.2.2.2.1.2.2.2.2.2.2.2.2.2.2.1.2.1 cx.2.2.2.2.2.2.2.1.2.2.2.2.2.2.2.2.2.2.1.2.2.1 hS hd (k.2 p e R s mi args below meth c A cf sf Q H locs cells slots ls cx hr he wh hS hl hz)⟩
end RM
