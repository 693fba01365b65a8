/-! ===== the rows of the logic: new cells, arrays of references, strings, the script ===== -/
def ab_i0 (I : Nat → Nat → Int32) (n : Nat) : Nat → Nat → Int32 := fun a b => if a = n then 0 else I a b
def ab_j0 (I : Nat → Nat → Int64) (n : Nat) : Nat → Nat → Int64 := fun a b => if a = n then 0 else I a b
theorem ab_i0_row (I : Nat → Nat → Int32) (n : Nat) : ab_i0 I n n = fun _ => 0 := by funext b; simp [ab_i0]
theorem ab_i0_off (I : Nat → Nat → Int32) {a n : Nat} (h : a ≠ n) : ab_i0 I n a = I a := by funext b; simp [ab_i0, h]
theorem ab_j0_row (I : Nat → Nat → Int64) (n : Nat) : ab_j0 I n n = fun _ => 0 := by funext b; simp [ab_j0]
theorem ab_j0_off (I : Nat → Nat → Int64) {a n : Nat} (h : a ≠ n) : ab_j0 I n a = I a := by funext b; simp [ab_j0, h]
/-- the memory with one cell more, all zeros -/
def ab_mk (m : ab_Mm) (sh : ab_Sh) : ab_Mm := (m.1 ++ [sh], ab_i0 m.2.1 m.1.length, ab_j0 m.2.2.1 m.1.length, m.2.2.2)
def ab_nw (m : ab_Mm) (sh : ab_Sh) : Option (Nat × ab_Mm) := if m.2.2.2 = 0 ∧ m.1.length < 1000 then some (m.1.length, ab_mk m sh) else none
/-- a new array of kind kd -/
def ab_na (m : ab_Mm) (kd : Nat) (n : Int32) : Option (Nat × ab_Mm) := if ¬ n < 0 ∧ n.toNatClampNeg ≤ 100000 then ab_nw m (kd, n.toNatClampNeg, []) else none
def ab_nq (m : ab_Mm) (n : Int32) : Option (Nat × ab_Mm) := if ¬ n < 0 ∧ n.toNatClampNeg ≤ 100000 then ab_nw m (5, n.toNatClampNeg, List.replicate n.toNatClampNeg (some none)) else none
theorem ab_nw_spec {m : ab_Mm} {sh : ab_Sh} {z : Nat × ab_Mm} (h : ab_nw m sh = some z) : m.2.2.2 = 0 ∧ m.1.length < 1000 ∧ z = (m.1.length, ab_mk m sh) := by
  unfold ab_nw at h
  split at h
  · rename_i hc
    exact ⟨hc.1, hc.2, (Option.some.inj h).symm⟩
  · cases h
theorem ab_exact {g : ab_G} {m : ab_Mm} {A : Nat → Prop} {s : State} {H : Heap} {locs : List Loc} {cells : Nat} (wh : ab_WH g m A H) (hE : ab_EF g A s) (hS : va_S A s.heap H locs) (hsz : H.size ≤ s.heap.size + cells) (hb : s.heap.size + cells ≤ g.2.2.2.1 + m.1.length) (hlt : m.1.length < 1000) : g.2.2.1 m.1.length = H.size := by
  obtain ⟨-, -, -, -, -, -, -, -, -, -, -, hle, hρ⟩ := hE
  rw [hρ _ hlt]
  have hlow : g.2.2.2.1 + m.1.length ≤ H.size := by
    rcases Nat.eq_zero_or_pos m.1.length with h0 | h0
    · have := hS.1
      omega
    · have hi : m.1.length - 1 < m.1.length := by omega
      have hc := wh.1 (m.1.length - 1) _ (ab_ws_of (List.getElem?_eq_getElem hi))
      have h2 := hc.lt
      dsimp only at h2
      rw [hρ _ (by omega)] at h2
      omega
  omega
theorem ab_WH_push {g : ab_G} {m : ab_Mm} {A : Nat → Prop} {H H1 : Heap} {sh : ab_Sh} (wh : ab_WH g m A H) (hlen : m.1.length < 1000) (hρ : g.2.2.1 m.1.length = H.size) (hat : va_at g.1 vwCl (H.size, ab_e g (fun _ => 0) (fun _ => 0) sh) H1) (o1 : ∀ q : Nat, q < H.size → H1[q]? = H[q]?) (hA : A H.size) : ab_WH g (ab_mk m sh) A H1 := by
  have e : ab_ws g (ab_mk m sh) = ab_ws g m ++ [(H.size, ab_e g (fun _ => 0) (fun _ => 0) sh)] := by
    rw [ab_ws_push (m := m) (m1 := ab_mk m sh) (sh := sh) rfl (fun a ha => ab_i0_off _ ha) (fun a ha => ab_j0_off _ ha), hρ]
    show _ ++ [(H.size, ab_e g (ab_i0 m.2.1 m.1.length m.1.length) (ab_j0 m.2.2.1 m.1.length m.1.length) sh)] = _
    rw [ab_i0_row, ab_j0_row]
  refine ⟨?_, ?_, ?_⟩
  · rw [e]
    refine (wh.1.kept (fun k x hx => o1 x.1 ((wh.1 k x hx).lt))).app (fun k x hx => ?_)
    have hz : k < 1 := (List.getElem?_eq_some_iff.mp hx).1
    rw [show k = 0 by omega] at hx
    cases hx
    exact hat
  · rw [e]
    exact wh.2.1.push wh.1 rfl hA
  · show (m.1 ++ [sh]).length ≤ 1000
    rw [List.length_append]
    exact hlen
theorem ab_mk_nc (m : ab_Mm) (sh : ab_Sh) : ab_nc (ab_mk m sh) = ab_nc m + 1 := by
  show (m.1 ++ [sh]).length + m.2.2.2 = m.1.length + m.2.2.2 + 1
  rw [List.length_append]
  show m.1.length + 1 + _ = _
  omega
theorem ab_mk_ns (m : ab_Mm) (sh : ab_Sh) : ab_ns (ab_mk m sh) = ab_ns m + ab_z sh := by
  show ((m.1 ++ [sh]).map ab_z).sum + 6 * m.2.2.2 = (m.1.map ab_z).sum + 6 * m.2.2.2 + ab_z sh
  rw [List.map_append, List.sum_append]
  show _ + (ab_z sh + 0) + _ = _
  omega
def ab_lkN (own : String) (index ci : Nat) (fs : List (Option (Option Nat))) : Prop := ∃ (C : String) (T : u_T) (N : Nat) (ty : Nat → FieldType), vwCl[ci]? = some (C, T, N) ∧ (∀ w ∈ u_ws C T N, w ∈ ab_tb) ∧ (∀ k, k < N → parseFieldDescriptor (T k).2.2.1 = some (ty k)) ∧ Cond.classLink own index C ∈ ab_tb ∧ Cond.instantiable C N ∈ ab_tb ∧ Cond.initialized C ∈ ab_tb ∧ fs.length = N ∧ ∀ j, j < N → (fs[j]? = some none ∧ defaultValue (ty j) = .int 0) ∨ (fs[j]? = some (some none) ∧ defaultValue (ty j) = .null)
section RN
variable {l : Launch} {g : ab_G} {cc : ByteArray} {own : String} {nL : Nat} {rt : Option FieldType} {hh : List (Nat × Nat × Nat × Nat)} {ini : Bool} {d : Nat} {o : ab_O} {m' : ab_Mm} {pc : Nat} {L : ab_L} {st : List Value} {m : ab_Mm}
theorem ru_new {β : Type} {z : β} {f : Nat × ab_Mm → Option β} {ci index : Nat} {fs : List (Option (Option Nat))} (h : (ab_nw m (0, ci, fs)).bind f = some z) (hd : decode cc pc = .ok (.new index, 3)) (hk : ab_lkN own index ci fs)
    (kk : ∀ q, f q = some z → ab_W l g cc own nL rt hh ini d o m' (pc + 3) L (.ref q.1 :: st) q.2) : ab_W l g cc own nL rt hh ini d o m' pc L st m := by
  obtain ⟨q, h1, h2⟩ := Option.bind_eq_some_iff.mp h
  obtain ⟨hx, hlt, rfl⟩ := ab_nw_spec h1
  have k1 := kk _ h2
  dsimp only at k1
  have hnc := ab_mk_nc m (0, ci, fs)
  have hns := ab_mk_ns m (0, ci, fs)
  have hmo := k1.1
  obtain ⟨C, T, N, ty, g1, g2, g3, g4, g5, g6, g7, g8⟩ := hk
  have hzN : ab_z (0, ci, fs) = N := g7
  refine ⟨⟨by have := hmo.1; omega, by have := hmo.2.1; omega, hmo.2.2⟩, fun p e R s mi args below meth c A cf sf Q H locs cells slots ls cx hr he wh hS hl hz => ?_⟩
  refine ab_Wsz (fun hsz => ?_)
  have hex := ab_exact wh cx.2.2.2.2.2.2.2.1 hS hsz (hz.2.2 hx) hlt
  have hts := cx.2.2.2.2.2.2.1
  have hKn := cx.2.2.2.2.2.2.2.1.2.1.1 ci _ g1
  refine W.newcK cx.1 cx.2.1 cx.2.2.2.1 (hts _ g4) (hts _ g5) (hts _ g6) rfl hd (by have := hmo.1; have := hz.1; have := hr.2.2.1; omega) (by have := hmo.2.1; have := hz.2.1; have := hr.2.2.2; omega) hKn.2.1 rfl fun H1 kC hkC e1 z1 o1 => ?_
  have wh1 : ab_WH g (ab_mk m (0, ci, fs)) A H1 := by
    refine ab_WH_push wh hlt hex ⟨_, g1, (u_born ty hts g2 hKn hkC e1 g3).to (fun j hj => ?_)⟩ o1 (cx.2.2.2.2.2.2.2.2.1 _ hS.1)
    show defaultValue (ty j) = (fs.mapIdx (fun k x => ab_fv g (fun _ => 0) k x)).getD j .null
    rw [List.getD_eq_getElem?_getD, ab_fs_at]
    rcases g8 j hj with ⟨q1, q2⟩ | ⟨q1, q2⟩
    · rw [q1, q2]; rfl
    · rw [q1, q2]; rfl
  have hS1 : va_S A s.heap H1 locs := ⟨Nat.le_trans hS.1 (by omega), fun x q1 q2 => (o1 x (Nat.lt_of_lt_of_le q1 hS.1)).trans (hS.2.1 x q1 q2), hS.2.2⟩
  have k2 := k1.2 p e R s mi args below meth c A cf sf Q H1 locs (cells + 1) (slots + N) ls cx hr he wh1 hS1 hl ⟨by have := hz.1; omega, by have := hz.2.1; omega, fun q => by
    have := hz.2.2 hx
    show _ ≤ _ + (m.1 ++ [_]).length
    rw [List.length_append]
    show _ ≤ _ + (m.1.length + 1)
    omega⟩
  have e2 : ab_s g (.ref m.1.length :: st) = .ref H.size :: ab_s g st := by
    show Value.ref (g.2.2.1 m.1.length) :: _ = _
    rw [hex]
  rw [e2] at k2
  exact k2
theorem ab_newarr {β : Type} {z : β} {f : Nat × ab_Mm → Option β} {n : Int32} {atype : ArrayType} {ty : FieldType} (kd t : Nat) (hat : newarray.typeOf atype = ty) (ht : ∀ g : ab_G, (ab_tys g)[t]? = some (g.2.1 t, ty)) (hcell : ∀ (g : ab_G) (N : Nat), va_at g.1 vwCl = va_at g.1 vwCl → ∃ a0, ab_e g (fun _ => 0) (fun _ => 0) (kd, N, []) = .inl (g.2.1 t, a0) ∧ ∀ cA, vp_cell cA a0 = arrV cA N (fun _ => defaultValue ty)) (hz : ∀ N, ab_z (kd, N, []) = N) (hby : componentBytes ty ≤ 8) (hobj : ∀ (U : State) (cA : ClassId), va_RA U cA ty → U.vm.findClass ("[" ++ ty.toString) = some cA)
    (h : (ab_na m kd n).bind f = some z) (hd : decode cc pc = .ok (.newarray atype, 2)) (hw : Cond.arrayClass ty ∈ ab_tb)
    (kk : ∀ q, f q = some z → ab_W l g cc own nL rt hh ini d o m' (pc + 2) L (.ref q.1 :: st) q.2) : ab_W l g cc own nL rt hh ini d o m' pc L (.int n :: st) m := by
  obtain ⟨q, h1, h2⟩ := Option.bind_eq_some_iff.mp h
  unfold ab_na at h1
  split at h1
  · rename_i hc
    obtain ⟨hx, hlt, rfl⟩ := ab_nw_spec h1
    have k1 := kk _ h2
    dsimp only at k1
    have hnc := ab_mk_nc m (kd, n.toNatClampNeg, [])
    have hns := ab_mk_ns m (kd, n.toNatClampNeg, [])
    have hmo := k1.1
    rw [hz] at hns
    refine ⟨⟨by have := hmo.1; omega, by have := hmo.2.1; omega, hmo.2.2⟩, fun p e R s mi args below meth c A cf sf Q H locs cells slots ls cx hr he wh hS hl hzz => ?_⟩
    refine ab_Wsz (fun hsz => ?_)
    have hex := ab_exact wh cx.2.2.2.2.2.2.2.1 hS hsz (hzz.2.2 hx) hlt
    have hts := cx.2.2.2.2.2.2.1
    have hK := cx.2.2.2.2.2.2.2.1.2.1
    subst hat
    refine va_newaK cx.1 cx.2.1 (hts _ hw) rfl hd rfl hc.1 rfl (by have := Nat.mul_le_mul hc.2 hby; omega) (by have := hmo.1; have := hzz.1; have := hr.2.2.1; omega) (by have := hmo.2.1; have := hzz.2.1; have := hr.2.2.2; omega) rfl fun H1 cA e1 z1 o1 hAr hNm => ?_
    have hcA : cA = g.2.1 t := Option.some.inj (hNm.symm.trans (hobj s _ (hK.2 t _ (ht g)).2))
    subst hcA
    obtain ⟨a0, q1, q2⟩ := hcell g n.toNatClampNeg rfl
    have wh1 : ab_WH g (ab_mk m (kd, n.toNatClampNeg, [])) A H1 := by
      refine ab_WH_push wh hlt hex ?_ o1 (cx.2.2.2.2.2.2.2.2.1 _ hS.1)
      rw [q1]
      show H1[H.size]? = some (vp_cell _ _)
      rw [q2]
      exact e1
    have hS1 : va_S A s.heap H1 locs := ⟨Nat.le_trans hS.1 (by omega), fun x q1 q2 => (o1 x (Nat.lt_of_lt_of_le q1 hS.1)).trans (hS.2.1 x q1 q2), hS.2.2⟩
    have k2 := k1.2 p e R s mi args below meth c A cf sf Q H1 locs (cells + 1) (slots + n.toNatClampNeg) ls cx hr he wh1 hS1 hl ⟨by have := hzz.1; omega, by have := hzz.2.1; omega, fun q => by
      have := hzz.2.2 hx
      show _ ≤ _ + (m.1 ++ [_]).length
      rw [List.length_append]
      show _ ≤ _ + (m.1.length + 1)
      omega⟩
    have e2 : ab_s g (.ref m.1.length :: st) = .ref H.size :: ab_s g st := by
      show Value.ref (g.2.2.1 m.1.length) :: _ = _
      rw [hex]
    rw [e2] at k2
    exact k2
  · cases h1
theorem ru_newI {β : Type} {z : β} {f : Nat × ab_Mm → Option β} {n : Int32} (h : (ab_na m 1 n).bind f = some z) (hd : decode cc pc = .ok (.newarray .int, 2)) (hw : Cond.arrayClass .int ∈ ab_tb)
    (kk : ∀ q, f q = some z → ab_W l g cc own nL rt hh ini d o m' (pc + 2) L (.ref q.1 :: st) q.2) : ab_W l g cc own nL rt hh ini d o m' pc L (.int n :: st) m :=
  ab_newarr (ty := .int) 1 0 rfl (fun _ => rfl) (fun g N _ => ⟨(N, .inl (fun _ => 0)), rfl, fun _ => rfl⟩) (fun _ => rfl) (by decide) (fun _ _ q => q) h hd hw kk
theorem ru_newB {β : Type} {z : β} {f : Nat × ab_Mm → Option β} {n : Int32} (h : (ab_na m 2 n).bind f = some z) (hd : decode cc pc = .ok (.newarray .byte, 2)) (hw : Cond.arrayClass .byte ∈ ab_tb)
    (kk : ∀ q, f q = some z → ab_W l g cc own nL rt hh ini d o m' (pc + 2) L (.ref q.1 :: st) q.2) : ab_W l g cc own nL rt hh ini d o m' pc L (.int n :: st) m :=
  ab_newarr (ty := .byte) 2 1 rfl (fun _ => rfl) (fun g N _ => ⟨(N, .inl (fun _ => 0)), rfl, fun _ => rfl⟩) (fun _ => rfl) (by decide) (fun _ _ q => q) h hd hw kk
theorem ru_newZ {β : Type} {z : β} {f : Nat × ab_Mm → Option β} {n : Int32} (h : (ab_na m 3 n).bind f = some z) (hd : decode cc pc = .ok (.newarray .boolean, 2)) (hw : Cond.arrayClass .boolean ∈ ab_tb)
    (kk : ∀ q, f q = some z → ab_W l g cc own nL rt hh ini d o m' (pc + 2) L (.ref q.1 :: st) q.2) : ab_W l g cc own nL rt hh ini d o m' pc L (.int n :: st) m :=
  ab_newarr (ty := .boolean) 3 2 rfl (fun _ => rfl) (fun g N _ => ⟨(N, .inl (fun _ => 0)), rfl, fun _ => rfl⟩) (fun _ => rfl) (by decide) (fun _ _ q => q) h hd hw kk
theorem ru_newJ {β : Type} {z : β} {f : Nat × ab_Mm → Option β} {n : Int32} (h : (ab_na m 4 n).bind f = some z) (hd : decode cc pc = .ok (.newarray .long, 2)) (hw : Cond.arrayClass .long ∈ ab_tb)
    (kk : ∀ q, f q = some z → ab_W l g cc own nL rt hh ini d o m' (pc + 2) L (.ref q.1 :: st) q.2) : ab_W l g cc own nL rt hh ini d o m' pc L (.int n :: st) m :=
  ab_newarr (ty := .long) 4 3 rfl (fun _ => rfl) (fun g N _ => ⟨(N, .inr (.inl (fun _ => 0))), rfl, fun _ => rfl⟩) (fun _ => rfl) (by decide) (fun _ _ q => q) h hd hw kk
end RN
