/-! ===== the rows of the logic: what reads and writes cells ===== -/
def ab_lkF (own : String) (index ci k : Nat) (fin : Bool) (ty : FieldType) : Prop := ∃ (C : String) (T : u_T) (N : Nat) (ty0 : Nat → FieldType), vwCl[ci]? = some (C, T, N) ∧ k < N ∧ (∀ w ∈ u_ws C T N, w ∈ ab_tb) ∧ (∀ k, k < N → parseFieldDescriptor (T k).2.2.1 = some (ty0 k)) ∧ (∀ a, a < N → ∀ b, b < N → a ≠ b → (T a).2.1 ≠ (T b).2.1) ∧ (T k).2.2.2 = fin ∧ ty0 k = ty ∧
  (Cond.fieldLink own index (T k).1 (T k).2.1 (T k).2.2.1 ∈ ab_tb ∨ ∃ host, Cond.fieldLinkNest own index (T k).1 (T k).2.1 (T k).2.2.1 host ∈ lw_tbl)
theorem ab_Wsz {p : Program} {l : Launch} {e : Env} {R : Room} {s : State} {mi : MethodId} {args : Array Value} {below : List Frame} {meth : Method} {c : Code} {H : Heap} {locs : List Loc} {cells slots : Nat} {Q : State → Prop} {g : JFrame} (k : H.size ≤ s.heap.size + cells → W p l e R s mi args below meth c H locs cells slots Q g) : W p l e R s mi args below meth c H locs cells slots Q g :=
  fun T hT X => k (by rw [← hT]; exact X.heapSize) T hT X
section RC
variable {l : Launch} {g : ab_G} {cc : ByteArray} {own : String} {nL : Nat} {rt : Option FieldType} {hh : List (Nat × Nat × Nat × Nat)} {ini : Bool} {d : Nat} {o : ab_O} {m' : ab_Mm} {pc : Nat} {L : ab_L} {st : List Value} {m : ab_Mm}
theorem ru_getF {ci r k index : Nat} {fin : Bool} {ty : FieldType} {x : Option (Option Nat)} {fs : List (Option (Option Nat))} {v : Value} (hd : decode cc pc = .ok (.getfield index, 3)) (hk : ab_lkF own index ci k fin ty) (hm : m.1[r]? = some (0, ci, fs)) (hx : fs[k]? = some x) (hv : ab_fv g (m.2.1 r) k x = ab_v g v)
    (kk : ab_W l g cc own nL rt hh ini d o m' (pc + 3) L (v :: st) m) : ab_W l g cc own nL rt hh ini d o m' pc L (.ref r :: st) m := by
  refine ⟨kk.1, fun p e R s mi args below meth c A cf sf Q H locs cells slots ls cx hr he wh hS hl hz => ?_⟩
  obtain ⟨C, T, N, ty0, h1, h2, h3, h4, h5, h6, h7, h8⟩ := hk
  have k0 := kk.2 p e R s mi args below meth c A cf sf Q H locs cells slots ls cx hr he wh hS hl hz
  obtain ⟨c1, c2, c3, c4, c5, c6, c7, c8, c9⟩ := cx
  have hfs : (fs.mapIdx (fun k x => ab_fv g (m.2.1 r) k x))[k]? = some (ab_v g v) := by rw [ab_fs_at, hx, ← hv]; rfl
  rcases h8 with h8 | ⟨host, h8⟩
  · exact va_get c1 c2 c7 h3 c4 c8.2.1 wh.1 r (ab_ws_of hm) h1 k h2 (c7 _ h8) (fun _ q => q) hfs hd k0
  · exact va_getN c1 c2 c7 h3 c4 c8.2.1 wh.1 r (ab_ws_of hm) h1 k h2 (va_Nw.use rfl (c8.1.1 _ _ _ _ _ _ h8)) (fun _ q => q) hfs hd k0
theorem ru_getI {β : Type} {z : β} {f : Int32 → Option β} {ci r k index : Nat} {fin : Bool} {ty : FieldType} (h : (ab_fI m ci r k).bind f = some z) (hd : decode cc pc = .ok (.getfield index, 3)) (hk : ab_lkF own index ci k fin ty)
    (kk : ∀ v, f v = some z → ab_W l g cc own nL rt hh ini d o m' (pc + 3) L (.int v :: st) m) : ab_W l g cc own nL rt hh ini d o m' pc L (.ref r :: st) m := by
  obtain ⟨v, h1, h2⟩ := Option.bind_eq_some_iff.mp h
  obtain ⟨e, fs, h3, h4⟩ := ab_fI_spec h1
  exact ru_getF hd hk h3 h4 (v := .int v) (by rw [e]; rfl) (kk v h2)
theorem ru_getR {β : Type} {z : β} {f : Nat → Option β} {ci r k index : Nat} {fin : Bool} {ty : FieldType} (h : (ab_fR m ci r k).bind f = some z) (hd : decode cc pc = .ok (.getfield index, 3)) (hk : ab_lkF own index ci k fin ty)
    (kk : ∀ q, f q = some z → ab_W l g cc own nL rt hh ini d o m' (pc + 3) L (.ref q :: st) m) : ab_W l g cc own nL rt hh ini d o m' pc L (.ref r :: st) m := by
  obtain ⟨q, h1, h2⟩ := Option.bind_eq_some_iff.mp h
  obtain ⟨fs, h3, h4⟩ := ab_fR_spec h1
  exact ru_getF hd hk h3 h4 (v := .ref q) rfl (kk q h2)
theorem ru_putI {β : Type} {z : β} {f : ab_Mm → Option β} {ci r k index : Nat} {v : Int32} (h : (ab_pI m ci r k v).bind f = some z) (hd : decode cc pc = .ok (.putfield index, 3)) (hk : ab_lkF own index ci k false .int)
    (kk : ∀ m1, f m1 = some z → ab_W l g cc own nL rt hh ini d o m' (pc + 3) L st m1) : ab_W l g cc own nL rt hh ini d o m' pc L (.int v :: .ref r :: st) m := by
  obtain ⟨m1, h1, h2⟩ := Option.bind_eq_some_iff.mp h
  obtain ⟨rfl, fs, h3, h4⟩ := ab_pI_spec h1
  have k1 := kk _ h2
  refine ⟨k1.1, fun p e R s mi args below meth c A cf sf Q H locs cells slots ls cx hr he wh hS hl hz => ?_⟩
  obtain ⟨C, T, N, ty0, g1, g2, g3, g4, g5, g6, g7, g8⟩ := hk
  have k0 := fun H1 locs1 w1 s1 => k1.2 p e R s mi args below meth c A cf sf Q H1 locs1 cells slots ls cx hr he w1 s1 hl hz
  obtain ⟨c1, c2, c3, c4, c5, c6, c7, c8, c9⟩ := cx
  have e5 : ab_e g (ab_u m.2.1 r k v r) (m.2.2.1 r) (0, ci, fs) = .inr (ci, (fs.mapIdx (fun k x => ab_fv g (m.2.1 r) k x)).set k (.int v)) := by rw [ab_fs_setI g m.2.1 r v h4]; rfl
  have hlen : k < (fs.mapIdx (fun k x => ab_fv g (m.2.1 r) k x)).length := by
    rw [List.length_mapIdx]
    exact (List.getElem?_eq_some_iff.mp h4).1
  have fin : ∀ (H1 : Heap) (locs1 : List Loc), va_P g.1 vwCl ((ab_ws g m).set r (g.2.2.1 r, .inr (ci, (fs.mapIdx (fun k x => ab_fv g (m.2.1 r) k x)).set k (.int v)))) H1 → va_D A ((ab_ws g m).set r (g.2.2.1 r, .inr (ci, (fs.mapIdx (fun k x => ab_fv g (m.2.1 r) k x)).set k (.int v)))) → va_S A s.heap H1 locs1 → W p l e R s mi args below meth c H1 locs1 cells slots Q (F0 mi (pc + 3) ls (ab_s g st)) := by
    intro H1 locs1 hP hD hS1
    refine k0 H1 locs1 (ab_WH_set (m := m) (r := r) (sh := (0, ci, fs)) wh (ab_set_same h3).symm (fun a ha => ab_u_off _ _ _ ha) (fun a ha => rfl) ?_ ?_) hS1
    · rw [e5]; exact hP
    · rw [e5]; exact hD
  rcases g8 with g8 | ⟨host, g8⟩
  · exact va_put c1 c2 c7 g3 ty0 g4 g5 c4 c8.2.1 wh.1 wh.2.1 hS r (ab_ws_of h3) g1 k g2 (c7 _ g8) (fun _ q => q) g6 (g4 k g2) (by rw [g7]; rfl) (by rw [g7]; rfl) hlen hd fin
  · exact va_putN c1 c2 c7 g3 ty0 g4 g5 c4 c8.2.1 wh.1 wh.2.1 hS r (ab_ws_of h3) g1 k g2 (va_Nw.use rfl (c8.1.1 _ _ _ _ _ _ g8)) (fun _ q => q) g6 (g4 k g2) (by rw [g7]; rfl) (by rw [g7]; rfl) hlen hd fin
/-- a final int field, in a constructor -/
theorem ru_putIF {β : Type} {z : β} {f : ab_Mm → Option β} {ci r k index : Nat} {v : Int32} (h : (ab_pI m ci r k v).bind f = some z) (hd : decode cc pc = .ok (.putfield index, 3)) (hk : ab_lkF own index ci k true .int) (hi : ini = true) (ho : ∀ q, vwCl[ci]? = some q → (q.2.1 k).1 = own) (hp : ∀ q, vwCl[ci]? = some q → Cond.fieldLink own index (q.2.1 k).1 (q.2.1 k).2.1 (q.2.1 k).2.2.1 ∈ ab_tb)
    (kk : ∀ m1, f m1 = some z → ab_W l g cc own nL rt hh ini d o m' (pc + 3) L st m1) : ab_W l g cc own nL rt hh ini d o m' pc L (.int v :: .ref r :: st) m := by
  obtain ⟨m1, h1, h2⟩ := Option.bind_eq_some_iff.mp h
  obtain ⟨rfl, fs, h3, h4⟩ := ab_pI_spec h1
  have k1 := kk _ h2
  refine ⟨k1.1, fun p e R s mi args below meth c A cf sf Q H locs cells slots ls cx hr he wh hS hl hz => ?_⟩
  obtain ⟨C, T, N, ty0, g1, g2, g3, g4, g5, g6, g7, g8⟩ := hk
  have k0 := fun H1 locs1 w1 s1 => k1.2 p e R s mi args below meth c A cf sf Q H1 locs1 cells slots ls cx hr he w1 s1 hl hz
  obtain ⟨c1, c2, c3, c4, c5, c6, c7, c8, c9, c10, c11⟩ := cx
  have e5 : ab_e g (ab_u m.2.1 r k v r) (m.2.2.1 r) (0, ci, fs) = .inr (ci, (fs.mapIdx (fun k x => ab_fv g (m.2.1 r) k x)).set k (.int v)) := by rw [ab_fs_setI g m.2.1 r v h4]; rfl
  have hlen : k < (fs.mapIdx (fun k x => ab_fv g (m.2.1 r) k x)).length := by
    rw [List.length_mapIdx]
    exact (List.getElem?_eq_some_iff.mp h4).1
  refine va_putF c1 c2 c7 g3 ty0 g4 g5 c4 c8.2.1 wh.1 wh.2.1 hS r (ab_ws_of h3) g1 k g2 (c7 _ (hp _ g1)) (fun _ q => q) g6 (c10 hi) (ho _ g1) (g4 k g2) (by rw [g7]; rfl) (by rw [g7]; rfl) hlen hd ?_
  intro H1 locs1 hP hD hS1
  refine k0 H1 locs1 (ab_WH_set (m := m) (r := r) (sh := (0, ci, fs)) wh (ab_set_same h3).symm (fun a ha => ab_u_off _ _ _ ha) (fun a ha => rfl) ?_ ?_) hS1
  · rw [e5]; exact hP
  · rw [e5]; exact hD
/-- a final reference, in a constructor -/
theorem ru_putR {β : Type} {z : β} {f : ab_Mm → Option β} {ci r k q index : Nat} {ty : FieldType} (h : (ab_pR m ci r k q).bind f = some z) (hd : decode cc pc = .ok (.putfield index, 3)) (hk : ab_lkF own index ci k true ty) (hty : ∀ a, narrow ty (.ref a) = .ref a ∧ fits ty (.ref a) = true) (hi : ini = true) (ho : ∀ q, vwCl[ci]? = some q → (q.2.1 k).1 = own) (hp : ∀ q, vwCl[ci]? = some q → Cond.fieldLink own index (q.2.1 k).1 (q.2.1 k).2.1 (q.2.1 k).2.2.1 ∈ ab_tb)
    (kk : ∀ m1, f m1 = some z → ab_W l g cc own nL rt hh ini d o m' (pc + 3) L st m1) : ab_W l g cc own nL rt hh ini d o m' pc L (.ref q :: .ref r :: st) m := by
  obtain ⟨m1, h1, h2⟩ := Option.bind_eq_some_iff.mp h
  obtain ⟨fs, x, h3, h4, rfl⟩ := ab_pR_spec h1
  have k1 := kk _ h2
  have hz0 : ab_z (0, ci, fs.set k (some (some q))) = ab_z (0, ci, fs) := by show (fs.set k _).length = fs.length; rw [List.length_set]
  have hns : ab_ns (m.1.set r (0, ci, fs.set k (some (some q))), m.2.1, m.2.2.1, m.2.2.2) = ab_ns m := by
    show ((m.1.set r (0, ci, fs.set k (some (some q)))).map ab_z).sum + _ = (m.1.map ab_z).sum + _
    have e2 : (m.1.map ab_z)[r]? = some (ab_z (0, ci, fs)) := by rw [List.getElem?_map, h3]; rfl
    rw [List.map_set, hz0, ab_set_same e2]
  have hnc : ab_nc (m.1.set r (0, ci, fs.set k (some (some q))), m.2.1, m.2.2.1, m.2.2.2) = ab_nc m := by
    show (m.1.set r _).length + _ = m.1.length + _
    rw [List.length_set]
  refine ⟨⟨by rw [← hnc]; exact k1.1.1, by rw [← hns]; exact k1.1.2.1, k1.1.2.2⟩, fun p e R s mi args below meth c A cf sf Q H locs cells slots ls cx hr he wh hS hl hz => ?_⟩
  obtain ⟨C, T, N, ty0, g1, g2, g3, g4, g5, g6, g7, g8⟩ := hk
  have k0 := fun H1 locs1 w1 s1 => k1.2 p e R s mi args below meth c A cf sf Q H1 locs1 cells slots ls cx hr he w1 s1 hl ⟨by rw [hnc]; exact hz.1, by rw [hns]; exact hz.2.1, by show _ → _ ≤ _ + (m.1.set r _).length; rw [List.length_set]; exact hz.2.2⟩
  obtain ⟨c1, c2, c3, c4, c5, c6, c7, c8, c9, c10, c11⟩ := cx
  have e5 : ab_e g (m.2.1 r) (m.2.2.1 r) (0, ci, fs.set k (some (some q))) = .inr (ci, (fs.mapIdx (fun k x => ab_fv g (m.2.1 r) k x)).set k (.ref (g.2.2.1 q))) := by rw [ab_fs_setR]; rfl
  have hlen : k < (fs.mapIdx (fun k x => ab_fv g (m.2.1 r) k x)).length := by
    rw [List.length_mapIdx]
    exact (List.getElem?_eq_some_iff.mp h4).1
  refine va_putF c1 c2 c7 g3 ty0 g4 g5 c4 c8.2.1 wh.1 wh.2.1 hS r (ab_ws_of h3) g1 k g2 (c7 _ (hp _ g1)) (fun _ q => q) g6 (c10 hi) (ho _ g1) (g4 k g2) (by rw [g7]; exact (hty _).1) (by rw [g7]; exact (hty _).2) hlen hd ?_
  intro H1 locs1 hP hD hS1
  refine k0 H1 locs1 (ab_WH_set (m := m) (r := r) (sh := (0, ci, fs.set k (some (some q)))) wh rfl (fun a ha => rfl) (fun a ha => rfl) ?_ ?_) hS1
  · show va_P g.1 vwCl ((ab_ws g m).set r (g.2.2.1 r, ab_e g (m.2.1 r) (m.2.2.1 r) (0, ci, fs.set k (some (some q))))) H1
    rw [e5]; exact hP
  · show va_D A ((ab_ws g m).set r (g.2.2.1 r, ab_e g (m.2.1 r) (m.2.2.1 r) (0, ci, fs.set k (some (some q)))))
    rw [e5]; exact hD
end RC
