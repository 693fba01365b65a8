/-! ===== the rows of the logic: fields and arrays ===== -/
def ab_fld (m : ab_Mm) (ci r k : Nat) : Option (Option (Option Nat)) := match m.1[r]? with
  | some (0, c, fs) => cond (Nat.beq c ci) fs[k]? none
  | _ => none
/-- an int field; a field that holds a reference -/
def ab_fI (m : ab_Mm) (ci r k : Nat) : Option Int32 := match ab_fld m ci r k with
  | some none => some (m.2.1 r k)
  | _ => none
def ab_fR (m : ab_Mm) (ci r k : Nat) : Option Nat := match ab_fld m ci r k with
  | some (some (some q)) => some q
  | _ => none
def ab_pI (m : ab_Mm) (ci r k : Nat) (v : Int32) : Option ab_Mm := match ab_fld m ci r k with
  | some none => some (m.1, ab_u m.2.1 r k v, m.2.2.1, m.2.2.2)
  | _ => none
def ab_pR (m : ab_Mm) (ci r k q : Nat) : Option ab_Mm := match m.1[r]? with
  | some (0, c, fs) => cond (Nat.beq c ci) (match fs[k]? with
    | some (some _) => some (m.1.set r (0, c, fs.set k (some (some q))), m.2.1, m.2.2.1, m.2.2.2)
    | _ => none) none
  | _ => none
/-- int elements (kinds 1, 2, 3), long elements (kind 4), references (kind 5) -/
def ab_ld (m : ab_Mm) (kd r : Nat) (i : Int32) : Option Int32 := match m.1[r]? with
  | some (k, n, _) => if k = kd ∧ ¬ (i < 0 ∨ n ≤ i.toNatClampNeg) then some (m.2.1 r i.toNatClampNeg) else none
  | _ => none
def ab_st (m : ab_Mm) (kd r : Nat) (i x : Int32) : Option ab_Mm := match m.1[r]? with
  | some (k, n, _) => if k = kd ∧ ¬ (i < 0 ∨ n ≤ i.toNatClampNeg) then some (m.1, ab_u m.2.1 r i.toNatClampNeg x, m.2.2.1, m.2.2.2) else none
  | _ => none
def ab_ldJ (m : ab_Mm) (r : Nat) (i : Int32) : Option Int64 := match m.1[r]? with
  | some (k, n, _) => if k = 4 ∧ ¬ (i < 0 ∨ n ≤ i.toNatClampNeg) then some (m.2.2.1 r i.toNatClampNeg) else none
  | _ => none
def ab_stJ (m : ab_Mm) (r : Nat) (i : Int32) (x : Int64) : Option ab_Mm := match m.1[r]? with
  | some (k, n, _) => if k = 4 ∧ ¬ (i < 0 ∨ n ≤ i.toNatClampNeg) then some (m.1, m.2.1, ab_u m.2.2.1 r i.toNatClampNeg x, m.2.2.2) else none
  | _ => none
def ab_ldR (m : ab_Mm) (r : Nat) (i : Int32) : Option Nat := match m.1[r]? with
  | some (k, n, fs) => if k = 5 ∧ ¬ (i < 0 ∨ n ≤ i.toNatClampNeg) then (match fs[i.toNatClampNeg]? with
    | some (some (some q)) => some q
    | _ => none) else none
  | _ => none
def ab_len (m : ab_Mm) (kd r : Nat) : Option Int32 := match m.1[r]? with
  | some (k, n, _) => if k = kd then some (Int32.ofNat n) else none
  | _ => none
theorem ab_fld_spec {m : ab_Mm} {ci r k : Nat} {x : Option (Option Nat)} (h : ab_fld m ci r k = some x) : ∃ fs, m.1[r]? = some (0, ci, fs) ∧ fs[k]? = some x := by
  unfold ab_fld at h
  split at h
  · rename_i c fs hm
    cases hb : Nat.beq c ci with
    | true =>
      rw [hb] at h
      rw [Nat.eq_of_beq_eq_true hb] at hm
      exact ⟨fs, hm, h⟩
    | false => rw [hb] at h; cases h
  · cases h
theorem ab_fI_spec {m : ab_Mm} {ci r k : Nat} {v : Int32} (h : ab_fI m ci r k = some v) : v = m.2.1 r k ∧ ∃ fs, m.1[r]? = some (0, ci, fs) ∧ fs[k]? = some none := by
  unfold ab_fI at h
  split at h
  · rename_i hf
    exact ⟨(Option.some.inj h).symm, ab_fld_spec hf⟩
  · cases h
theorem ab_fR_spec {m : ab_Mm} {ci r k q : Nat} (h : ab_fR m ci r k = some q) : ∃ fs, m.1[r]? = some (0, ci, fs) ∧ fs[k]? = some (some (some q)) := by
  unfold ab_fR at h
  split at h
  · rename_i hf
    cases h
    exact ab_fld_spec hf
  · cases h
theorem ab_pI_spec {m m1 : ab_Mm} {ci r k : Nat} {v : Int32} (h : ab_pI m ci r k v = some m1) : m1 = (m.1, ab_u m.2.1 r k v, m.2.2.1, m.2.2.2) ∧ ∃ fs, m.1[r]? = some (0, ci, fs) ∧ fs[k]? = some none := by
  unfold ab_pI at h
  split at h
  · rename_i hf
    exact ⟨(Option.some.inj h).symm, ab_fld_spec hf⟩
  · cases h
theorem ab_pR_spec {m m1 : ab_Mm} {ci r k q : Nat} (h : ab_pR m ci r k q = some m1) : ∃ fs x, m.1[r]? = some (0, ci, fs) ∧ fs[k]? = some (some x) ∧ m1 = (m.1.set r (0, ci, fs.set k (some (some q))), m.2.1, m.2.2.1, m.2.2.2) := by
  unfold ab_pR at h
  split at h
  · rename_i c fs hm
    cases hb : Nat.beq c ci with
    | true =>
      rw [hb] at h
      rw [Nat.eq_of_beq_eq_true hb] at hm h
      simp only [cond_true] at h
      split at h
      · rename_i x hx
        exact ⟨fs, x, hm, hx, (Option.some.inj h).symm⟩
      · cases h
    | false => rw [hb] at h; cases h
  · cases h
theorem ab_ld_spec {m : ab_Mm} {kd r : Nat} {i v : Int32} (h : ab_ld m kd r i = some v) : ∃ n fs, m.1[r]? = some (kd, n, fs) ∧ vp_in i n ∧ v = m.2.1 r i.toNatClampNeg := by
  unfold ab_ld at h
  split at h
  · rename_i k n fs hm
    split at h
    · rename_i hc
      rw [hc.1] at hm
      exact ⟨n, fs, hm, hc.2, (Option.some.inj h).symm⟩
    · cases h
  · cases h
theorem ab_st_spec {m m1 : ab_Mm} {kd r : Nat} {i x : Int32} (h : ab_st m kd r i x = some m1) : ∃ n fs, m.1[r]? = some (kd, n, fs) ∧ vp_in i n ∧ m1 = (m.1, ab_u m.2.1 r i.toNatClampNeg x, m.2.2.1, m.2.2.2) := by
  unfold ab_st at h
  split at h
  · rename_i k n fs hm
    split at h
    · rename_i hc
      rw [hc.1] at hm
      exact ⟨n, fs, hm, hc.2, (Option.some.inj h).symm⟩
    · cases h
  · cases h
theorem ab_ldJ_spec {m : ab_Mm} {r : Nat} {i : Int32} {v : Int64} (h : ab_ldJ m r i = some v) : ∃ n fs, m.1[r]? = some (4, n, fs) ∧ vp_in i n ∧ v = m.2.2.1 r i.toNatClampNeg := by
  unfold ab_ldJ at h
  split at h
  · rename_i k n fs hm
    split at h
    · rename_i hc
      rw [hc.1] at hm
      exact ⟨n, fs, hm, hc.2, (Option.some.inj h).symm⟩
    · cases h
  · cases h
theorem ab_stJ_spec {m m1 : ab_Mm} {r : Nat} {i : Int32} {x : Int64} (h : ab_stJ m r i x = some m1) : ∃ n fs, m.1[r]? = some (4, n, fs) ∧ vp_in i n ∧ m1 = (m.1, m.2.1, ab_u m.2.2.1 r i.toNatClampNeg x, m.2.2.2) := by
  unfold ab_stJ at h
  split at h
  · rename_i k n fs hm
    split at h
    · rename_i hc
      rw [hc.1] at hm
      exact ⟨n, fs, hm, hc.2, (Option.some.inj h).symm⟩
    · cases h
  · cases h
theorem ab_ldR_spec {m : ab_Mm} {r q : Nat} {i : Int32} (h : ab_ldR m r i = some q) : ∃ n fs, m.1[r]? = some (5, n, fs) ∧ vp_in i n ∧ fs[i.toNatClampNeg]? = some (some (some q)) := by
  unfold ab_ldR at h
  split at h
  · rename_i k n fs hm
    split at h
    · rename_i hc
      rw [hc.1] at hm
      split at h
      · rename_i x hx
        cases h
        exact ⟨n, fs, hm, hc.2, hx⟩
      · cases h
    · cases h
  · cases h
theorem ab_len_spec {m : ab_Mm} {kd r : Nat} {v : Int32} (h : ab_len m kd r = some v) : ∃ n fs, m.1[r]? = some (kd, n, fs) ∧ Int32.ofNat n = v := by
  unfold ab_len at h
  split at h
  · rename_i k n fs hm
    split at h
    · rename_i hc
      rw [hc] at hm
      exact ⟨n, fs, hm, Option.some.inj h⟩
    · cases h
  · cases h
theorem ab_u_row {α : Type} (I : Nat → Nat → α) (r k : Nat) (x : α) : ab_u I r k x r = fun j => if j = k then x else I r j := by
  funext j
  simp [ab_u]
theorem ab_u_off {α : Type} (I : Nat → Nat → α) {r a : Nat} (k : Nat) (x : α) (h : a ≠ r) : ab_u I r k x a = I a := by
  funext j
  simp [ab_u, h]
theorem ab_fs_at (g : ab_G) (ir : Nat → Int32) (fs : List (Option (Option Nat))) (k : Nat) : (fs.mapIdx (fun k x => ab_fv g ir k x))[k]? = fs[k]?.map (ab_fv g ir k) := by
  rw [List.getElem?_mapIdx]
theorem ab_fs_setI (g : ab_G) (I : Nat → Nat → Int32) (r : Nat) {fs : List (Option (Option Nat))} {k : Nat} (v : Int32) (h : fs[k]? = some none) : (fs.mapIdx (fun k x => ab_fv g (I r) k x)).set k (.int v) = fs.mapIdx (fun j x => ab_fv g (ab_u I r k v r) j x) := by
  apply List.ext_getElem?
  intro i
  rw [List.getElem?_set, ab_fs_at, ab_fs_at]
  by_cases hi : k = i
  · subst hi
    have hl : k < (fs.mapIdx (fun k x => ab_fv g (I r) k x)).length := by
      rw [List.length_mapIdx]
      exact (List.getElem?_eq_some_iff.mp h).1
    rw [if_pos rfl, if_pos hl, h, ab_u_row]
    show some (Value.int v) = some (Value.int (if k = k then v else I r k))
    rw [if_pos rfl]
  · rw [if_neg hi, ab_u_row]
    cases fs[i]? with
    | none => rfl
    | some x =>
      cases x with
      | none =>
        show some (Value.int (I r i)) = some (Value.int (if i = k then v else I r i))
        rw [if_neg (fun e => hi e.symm)]
      | some y => cases y <;> rfl
theorem ab_fs_setR (g : ab_G) (ir : Nat → Int32) {fs : List (Option (Option Nat))} {k : Nat} (q : Nat) : (fs.mapIdx (fun k x => ab_fv g ir k x)).set k (.ref (g.2.2.1 q)) = (fs.set k (some (some q))).mapIdx (fun j x => ab_fv g ir j x) := by
  apply List.ext_getElem?
  intro i
  rw [List.getElem?_set, ab_fs_at, ab_fs_at, List.getElem?_set]
  by_cases hi : k = i
  · subst hi
    by_cases hl : k < fs.length
    · simp [hl, ab_fv]
    · simp [hl]
  · rw [if_neg hi, if_neg hi]
theorem ab_tys_int (g : ab_G) : (ab_tys g)[0]? = some (g.2.1 0, .int) := rfl
theorem ab_set_same {α : Type} {l : List α} {r : Nat} {x : α} (h : l[r]? = some x) : l.set r x = l := by
  apply List.ext_getElem?
  intro i
  rw [List.getElem?_set]
  by_cases hi : r = i
  · subst hi
    rw [if_pos rfl, if_pos (List.getElem?_eq_some_iff.mp h).1, h]
  · rw [if_neg hi]
/-- the world behind a store into the cell r -/
theorem ab_WH_set {g : ab_G} {m m1 : ab_Mm} {A : Nat → Prop} {H H1 : Heap} {r : Nat} {sh : ab_Sh} (wh : ab_WH g m A H) (h1 : m1.1 = m.1.set r sh) (hI : ∀ a, a ≠ r → m1.2.1 a = m.2.1 a) (hJ : ∀ a, a ≠ r → m1.2.2.1 a = m.2.2.1 a)
    (hP : va_P g.1 vwCl ((ab_ws g m).set r (g.2.2.1 r, ab_e g (m1.2.1 r) (m1.2.2.1 r) sh)) H1) (hD : va_D A ((ab_ws g m).set r (g.2.2.1 r, ab_e g (m1.2.1 r) (m1.2.2.1 r) sh))) : ab_WH g m1 A H1 := by
  refine ⟨by rw [ab_ws_set h1 hI hJ]; exact hP, by rw [ab_ws_set h1 hI hJ]; exact hD, ?_⟩
  rw [h1, List.length_set]; exact wh.2.2
