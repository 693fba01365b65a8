/-! ===== what holds of the machine beside the memory; the logic AW; a method's contract ===== -/
/-- the words that the two readers know: class, place in its pool, text, number -/
def ab_wd : List (String × Nat × String × Nat) := [("CloudMarket$Reader", 77, "host", 0), ("CloudMarket$Reader", 98, "type", 1), ("CloudMarket$Reader", 103, "tenant", 2), ("CloudMarket$Reader", 108, "reserve", 3), ("CloudMarket$Reader", 116, "floor", 4), ("CloudMarket$Reader", 124, "notice", 5), ("CloudMarket$Reader", 126, "slope", 6), ("CloudMarket$Reader", 128, "move", 7), ("CloudMarket$Reader", 176, "cpu", 8), ("CloudMarket$Reader", 178, "memory", 9), ("CloudMarket$Reader", 180, "price", 10), ("CloudMarket$Reader", 182, "age", 11), ("CloudMarketModel", 177, "host", 12), ("CloudMarketModel", 189, "type", 13), ("CloudMarketModel", 191, "tenant", 14), ("CloudMarketModel", 193, "reserve", 15), ("CloudMarketModel", 198, "floor", 16), ("CloudMarketModel", 207, "notice", 17), ("CloudMarketModel", 209, "slope", 18), ("CloudMarketModel", 211, "move", 19), ("CloudMarketModel", 226, "cpu", 20), ("CloudMarketModel", 227, "memory", 21), ("CloudMarketModel", 228, "price", 22), ("CloudMarketModel", 230, "age", 23)]
def ab_by : List (List Int32) := [[104, 111, 115, 116], [116, 121, 112, 101], [116, 101, 110, 97, 110, 116], [114, 101, 115, 101, 114, 118, 101], [102, 108, 111, 111, 114], [110, 111, 116, 105, 99, 101], [115, 108, 111, 112, 101], [109, 111, 118, 101], [99, 112, 117], [109, 101, 109, 111, 114, 121], [112, 114, 105, 99, 101], [97, 103, 101], [104, 111, 115, 116], [116, 121, 112, 101], [116, 101, 110, 97, 110, 116], [114, 101, 115, 101, 114, 118, 101], [102, 108, 111, 111, 114], [110, 111, 116, 105, 99, 101], [115, 108, 111, 112, 101], [109, 111, 118, 101], [99, 112, 117], [109, 101, 109, 111, 114, 121], [112, 114, 105, 99, 101], [97, 103, 101]]
/-- the texts of exceptions -/
def ab_xt : List (String × Nat × String) := [("CloudMarket", 78, "length out of range"), ("CloudMarket", 218, "the instance is not on the host"), ("CloudMarket", 226, "too many instances on the host"), ("CloudMarket", 235, "hours out of range"), ("CloudMarket", 244, "the clock would exceed its end"), ("CloudMarket", 259, "too many instances"), ("CloudMarket", 261, "the type fits no host"), ("CloudMarket", 267, "price out of range"), ("CloudMarket", 270, "too many waiting requests"), ("CloudMarket", 283, "a regular instance"), ("CloudMarket", 285, "the instance has a notice"), ("CloudMarket", 290, "the instance is on this host"), ("CloudMarket", 296, "the instance does not fit the host"), ("CloudMarket", 301, "no instances or too many on the host"), ("CloudMarket", 303, "the host cannot be drained"), ("CloudMarket", 323, "the slot is empty"), ("CloudMarket", 330, "no such number"), ("CloudMarket", 336, "no such running instance"), ("CloudMarket", 338, "no such slot"), ("CloudMarket", 340, "the tenant is over budget")]
def ab_xn : Nat → String
  | 0 => "java/lang/IndexOutOfBoundsException"
  | 1 => "java/lang/IllegalStateException"
  | _ => "java/lang/IllegalArgumentException"
def ab_tb : List Cond := lw_tbl.filter goodWord
theorem ab_tb_of {w : Cond} (h : w ∈ lw_tbl) (hg : goodWord w = true) : w ∈ ab_tb := List.mem_filter.mpr ⟨h, hg⟩
theorem ab_tb_at {w : Cond} (i : Nat) (h : lw_tbl[i]? = some w) (hg : goodWord w = true) : w ∈ ab_tb := ab_tb_of (List.mem_of_getElem? h) hg
theorem ab_tb_good : GoodIn ab_tb ab_tb := fun w h => ⟨h, good_of_word (List.mem_filter.mp h).2⟩
def ab_Nw (s : State) : Prop := (∀ (a : String) (i : Nat) (b n d h : String), Cond.fieldLinkNest a i b n d h ∈ lw_tbl → va_Nw (.fieldLinkNest a i b n d h) s) ∧ ∀ (a : String) (i : Nat) (x : MethodName) (h : String), Cond.methodLinkNest a i x h ∈ lw_tbl → va_Nw (.methodLinkNest a i x h) s
def ab_S (g : ab_G) (A : Nat → Prop) (U : State) (H : Heap) : Prop := ∀ i : Nat, i < 24 → va_O "java/lang/String" (g.2.2.1 (1000 + 2 * i)) A U H ∧ va_OF "java/lang/String" "coder" "B" (.int 0) (g.2.2.1 (1000 + 2 * i)) A U H ∧ va_OF "java/lang/String" "value" "[B" (.ref (g.2.2.1 (1001 + 2 * i))) (g.2.2.1 (1000 + 2 * i)) A U H ∧ va_T .byte (g.2.2.1 (1001 + 2 * i)) (ab_by.getD i []).length (fun j => .int ((ab_by.getD i []).getD j 0)) A U H
def ab_Cs (s : State) : Prop := (∀ x : MethodName, Cond.declares x ∈ lw_tbl → va_Nw (.declares x) s) ∧ ∀ i j : Nat, (i = j → va_Nw (.castable (ab_xn i) (ab_xn j)) s) ∧ (i < 3 → j < 3 → i ≠ j → va_Nc (ab_xn i) (ab_xn j) s)
def ab_EF (g : ab_G) (A : Nat → Prop) (s : State) : Prop :=
  ab_Nw s ∧ va_K g.1 vwCl (ab_tys g) s ∧ (∀ q ∈ ab_wd, vk_R q.1 q.2.1 q.2.2.1 (g.2.2.1 (1000 + 2 * q.2.2.2)) s) ∧ (∀ q ∈ ab_xt, ∃ sa, vk_R q.1 q.2.1 q.2.2 sa s) ∧ ab_S g A s s.heap ∧
  vx_Zq Bundle.tN "UNASSIGNED_STACK" Bundle.steD A s s.heap ∧ vx_Zq Bundle.tN "SUPPRESSED_SENTINEL" Bundle.listD A s s.heap ∧ va_Z "java/lang/String" "COMPACT_STRINGS" "Z" (.int 1) A s s.heap ∧ ab_Cs s ∧ va_AO RX8 s ∧ (va_X (g.2.2.1 2000) g.2.2.2.2.1 g.2.2.2.2.2 s s.heap ∧ g.2.2.1 2000 < s.heap.size ∧ ¬ A (g.2.2.1 2000) ∧ (va_Z "jdk/internal/util/Preconditions" "SIOOBE_FORMATTER" "Ljava/util/function/BiFunction;" .null A s s.heap ∨ va_Z "jdk/internal/util/Preconditions" "SIOOBE_FORMATTER" "Ljava/util/function/BiFunction;" (.ref (g.2.2.1 2001)) A s s.heap)) ∧ g.2.2.2.1 ≤ s.heap.size ∧ ∀ r, r < 1000 → g.2.2.1 r = g.2.2.2.1 + r
theorem ab_cast_moved {C T : String} {u U : State} (hvm : u.vm.Alike U.vm) (h : va_Nw (.castable C T) u) : va_Nw (.castable C T) U := by
  have e := Cond.onTables_vm (A := #[]) (A' := #[]) (U := u) (U' := U) U.vm (.castable C T) rfl
  have hU : U.setVm U.vm = U := rfl
  rw [hU] at e
  show (Cond.castable C T).before #[] U = true
  rw [← e, Cond.castable_setVm hvm]
  exact h
theorem ab_decl_moved {x : MethodName} {u U : State} (hvm : u.vm.Alike U.vm) (h : va_Nw (.declares x) u) : va_Nw (.declares x) U := by
  have e := Cond.onTables_vm (A := #[]) (A' := #[]) (U := u) (U' := U) U.vm (.declares x) rfl
  have hU : U.setVm U.vm = U := rfl
  rw [hU] at e
  show (Cond.declares x).before #[] U = true
  rw [← e, Cond.declares_setVm hvm]
  exact h
theorem ab_EF_to {g : ab_G} {A B : Nat → Prop} {s U : State} (h : ab_EF g A s) (hW : s.WarmedH U.vm) (hle : s.heap.size ≤ U.heap.size) (hq : ∀ a : Nat, a < s.heap.size → ¬ A a → U.heap[a]? = s.heap[a]?) (hAB : ∀ q, B q → A q) : ab_EF g B U := by
  obtain ⟨h1, h2, h3, h4, h5, h6, h7, h8, h9, h10, ⟨h12, h13, h14, h16⟩, h15, h11⟩ := h
  have hv := hW.alike
  refine ⟨⟨fun a i b n d x hm => va_Nw.warmF hW (h1.1 a i b n d x hm), fun a i x z hm => va_Nw.warmM hW (h1.2 a i x z hm)⟩, va_K.moved hv h2, fun q hm => vk_R.warm hW (h3 q hm), fun q hm => (h4 q hm).imp (fun sa hs => vk_R.warm hW hs), fun i hi => ?_, ((vx_Zq.moved hv h6).kept hq).narrow hAB, ((vx_Zq.moved hv h7).kept hq).narrow hAB, ((va_Z.moved hv h8).kept hq).narrow hAB, ⟨fun x hx => ab_decl_moved hv (h9.1 x hx), fun i j => ⟨fun e => ?_, fun hi hj hn => va_Nc.moved hv ((h9.2 i j).2 hi hj hn)⟩⟩, ?_, ?_, Nat.le_trans h15 hle, h11⟩
  · obtain ⟨k1, k2, k3, k4⟩ := h5 i hi
    exact ⟨((va_O.moved hv k1).kept hq).narrow hAB, ((va_OF.moved hv k2).kept hq).narrow hAB, ((va_OF.moved hv k3).kept hq).narrow hAB, ((va_T.moved hv k4).kept hq).narrow hAB⟩
  · exact ab_cast_moved hv ((h9.2 i j).1 e)
  · exact va_AO.moved hv h10
  · obtain ⟨scr, k1, k2, k3, k4, k5⟩ := h12
    have e := hq _ h13 h14
    rw [k1] at e
    exact ⟨⟨scr, e, State.isArrayOf_alike hv k2, k3, k4, k5⟩, (Array.getElem?_eq_some_iff.mp e).1, fun q => h14 (hAB _ q), h16.imp (fun h => ((va_Z.moved hv h).kept hq).narrow hAB) (fun h => ((va_Z.moved hv h).kept hq).narrow hAB)⟩
/-- the memory m lies in the heap H -/
def ab_WH (g : ab_G) (m : ab_Mm) (A : Nat → Prop) (H : Heap) : Prop := va_P g.1 vwCl (ab_ws g m) H ∧ va_D A (ab_ws g m) ∧ m.1.length ≤ 1000
def ab_mo (m m' : ab_Mm) : Prop := ab_nc m ≤ ab_nc m' ∧ ab_ns m ≤ ab_ns m' ∧ m.2.2.2 ≤ m'.2.2.2
def ab_CX (l : Launch) (g : ab_G) (cc : ByteArray) (own : String) (nL : Nat) (rt : Option FieldType) (hh : List (Nat × Nat × Nat × Nat)) (ini : Bool) (p : Program) (s : State) (mi : MethodId) (args : Array Value) (meth : Method) (c : Code) (A : Nat → Prop) : Prop :=
  p.tables.exec = Jvm.exec ∧ c.code = cc ∧ c.maxLocals = nL ∧ s.vm.findClass own = some mi.cls ∧ l.stackTraces = false ∧ meth.locks = false ∧ (∀ w ∈ ab_tb, w.before args s = true) ∧ ab_EF g A s ∧ (∀ q, s.heap.size ≤ q → A q) ∧ (ini = true → meth.name = "<init>") ∧ meth.sig.returnType = rt ∧ c.exceptionTable.toList = tableOf hh
def ab_ra (cc : ByteArray) (rt : Option FieldType) (pc : Nat) : Option Value → Prop
  | none => rt = none ∧ decode cc pc = .ok (.return_, 1)
  | some (.int v) => ∃ ty, rt = some ty ∧ narrow ty (.int v) = .int v ∧ decode cc pc = .ok (.ireturn, 1)
  | some (.long _) => rt = some .long ∧ decode cc pc = .ok (.lreturn, 1)
  | some (.double _) => rt = some .double ∧ decode cc pc = .ok (.dreturn, 1)
  | some _ => False
def ab_End (l : Launch) (g : ab_G) (cc : ByteArray) (rt : Option FieldType) (m' : ab_Mm) (p : Program) (e : Env) (R : Room) (s : State) (mi : MethodId) (args : Array Value) (below : List Frame) (meth : Method) (c : Code) (A : Nat → Prop) (cf sf : Nat) (Q : State → Prop) : ab_O → Prop
  | .inl v => ∀ (H' : Heap) (locs' : List Loc) (ls' : Array Slot) (pc' : Nat), ab_WH g m' A H' → va_S A s.heap H' locs' → ab_ra cc rt pc' v → W p l e R s mi args below meth c H' locs' cf sf Q (F0 mi pc' ls' (v.toList.map (ab_v g)))
  | .inr k => ∃ (Qc : Array Value → State → Outcome → State → Prop) (XC : String → State → State → Prop) (mc ms : Nat) (free : Addr → Prop), Q = vx_MQ below Qc XC args s mc ms free ∧ (∀ t : State, s.vm.Alike t.vm → ab_WH g m' A t.heap → va_F A s t → XC (ab_xn k) s t) ∧ (∀ q, A q → free q) ∧ cf ≤ mc ∧ sf ≤ ms
/-- from this place, with these locals and this stack over the memory m, the method ends as o, with the memory m' -/
def ab_W (l : Launch) (g : ab_G) (cc : ByteArray) (own : String) (nL : Nat) (rt : Option FieldType) (hh : List (Nat × Nat × Nat × Nat)) (ini : Bool) (d : Nat) (o : ab_O) (m' : ab_Mm) (pc : Nat) (L : ab_L) (st : List Value) (m : ab_Mm) : Prop :=
  ab_mo m m' ∧ ∀ (p : Program) (e : Env) (R : Room) (s : State) (mi : MethodId) (args : Array Value) (below : List Frame) (meth : Method) (c : Code) (A : Nat → Prop) (cf sf : Nat) (Q : State → Prop) (H : Heap) (locs : List Loc) (cells slots : Nat) (ls : Array Slot),
    ab_CX l g cc own nL rt hh ini p s mi args meth c A → (d + 12 ≤ R.frames ∧ 60 * d + 400 ≤ R.locals ∧ cf ≤ R.cells ∧ sf ≤ R.slots) → ab_End l g cc rt m' p e R s mi args below meth c A cf sf Q o →
    ab_WH g m A H → va_S A s.heap H locs → lv_has ls nL (ab_l g L) → (cells + ab_nc m' = cf + ab_nc m ∧ slots + ab_ns m' = sf + ab_ns m ∧ (m.2.2.2 = 0 → s.heap.size + cells ≤ g.2.2.2.1 + m.1.length)) → W p l e R s mi args below meth c H locs cells slots Q (F0 mi pc ls (ab_s g st))
def ab_cw (y : MethodName) (cc : ByteArray) (nL : Nat) (rt : Option FieldType) : List (Nat × Nat × Nat × Nat) → Cond
  | [] => .code y cc nL rt
  | h :: hh => .codeWith y cc nL rt (h :: hh)
abbrev ab_rm (d mc ms : Nat) : Room := { frames := d + 12, cells := mc, slots := ms, locals := 60 * d + 400 }
def ab_Pc (g : ab_G) (As : List Value) (m : ab_Mm) (sz : Nat) : Array Value → State → Prop := va_Pc (ab_s g As) (fun U => U.heap.size = sz ∧ (m.2.2.2 = 0 → sz ≤ g.2.2.2.1 + m.1.length) ∧ ab_EF g (va_A (ab_ws g m) sz) U ∧ ab_WH g m (va_A (ab_ws g m) sz) U.heap)
theorem ab_Pc_blind (g : ab_G) (As : List Value) (m : ab_Mm) (sz : Nat) : FrameBlind (ab_Pc g As m sz) := by
  intro a U g9 mk h
  obtain ⟨h1, h2, h5, h3, h4⟩ := h
  exact ⟨h1, h2, h5, ab_EF_to (U := U.calling g9 mk a) h3 (State.WarmedH.refl U) (Nat.le_refl _) (fun _ _ _ => rfl) (fun _ q => q), h4⟩
def ab_Qc (g : ab_G) (m' : ab_Mm) (o : ab_O) (A : Nat → Prop) : Array Value → State → Outcome → State → Prop := fun _ st oc t => match o with
  | .inl v => oc = .returned (v.map (ab_v g)) ∧ ab_WH g m' A t.heap ∧ va_F A st t
  | .inr _ => False
def ab_XC (g : ab_G) (m' : ab_Mm) (o : ab_O) (A : Nat → Prop) : String → State → State → Prop := fun E st t => match o with
  | .inl _ => False
  | .inr k => E = ab_xn k ∧ ab_WH g m' A t.heap ∧ va_F A st t
/-- a method's contract at one memory and one list of arguments: it ends as o, with the memory m' -/
def ab_Met (l : Launch) (g : ab_G) (y : MethodName) (cc : ByteArray) (nL : Nat) (rt : Option FieldType) (hh : List (Nat × Nat × Nat × Nat)) (d : Nat) (As : List Value) (m : ab_Mm) (o : ab_O) (m' : ab_Mm) : Prop :=
  ab_mo m m' ∧ ∀ sz : Nat, vx_Met l y (ab_cw y cc nL rt hh :: ab_tb) (ab_rm d (ab_nc m' - ab_nc m) (ab_ns m' - ab_ns m)) (ab_Pc g As m sz) (ab_Qc g m' o (va_A (ab_ws g m) sz)) (ab_XC g m' o (va_A (ab_ws g m) sz)) (ab_nc m' - ab_nc m) (ab_ns m' - ab_ns m) (va_A (ab_ws g m) sz)
theorem ab_args (g : ab_G) : ∀ (As : List Value) (i : Nat), lv_args i (ab_s g As) = ab_l g (lv_args i As)
  | [], _ => rfl
  | v :: As, i => by
    show (i, ab_v g v) :: lv_args (if (ab_v g v).category = 2 then i + 2 else i + 1) (ab_s g As) = _
    rw [ab_v_cat, ab_args g As]
    rfl
theorem ab_sl (g : ab_G) : ∀ As : List Value, (lg_sl (ab_s g As)).length = (lg_sl As).length
  | [] => rfl
  | v :: As => by
    have ih := ab_sl g As
    have e1 : lg_sl (ab_s g (v :: As)) = (if (ab_v g v).category = 2 then [Slot.val (ab_v g v), Slot.second] else [Slot.val (ab_v g v)]) ++ lg_sl (ab_s g As) := rfl
    have e2 : lg_sl (v :: As) = (if v.category = 2 then [Slot.val v, Slot.second] else [Slot.val v]) ++ lg_sl As := rfl
    rw [e1, e2, ab_v_cat, List.length_append, List.length_append, ih]
    by_cases h : v.category = 2 <;> simp [h]

theorem ab_wsA {g : ab_G} {m : ab_Mm} {A : Nat → Prop} {H0 H : Heap} {locs : List Loc} (hD : va_D A (ab_ws g m)) (hS : va_S A H0 H locs) (hA : ∀ q, H0.size ≤ q → A q) : ∀ q, va_A (ab_ws g m) H.size q → A q := by
  intro q h
  rcases h with ⟨k, e, hk⟩ | h
  · exact hD.2 k _ hk
  · exact hA q (Nat.le_trans hS.1 h)
set_option maxHeartbeats 1000000 in
theorem ab_endW {l : Launch} {g : ab_G} {cc : ByteArray} {rt : Option FieldType} {m' : ab_Mm} {p : Program} {e : Env} {R : Room} {s : State} {mi : MethodId} {args : Array Value} {below : List Frame} {meth : Method} {c : Code} {o : ab_O} {A : Nat → Prop} {cf sf : Nat}
    (hx : p.tables.exec = Jvm.exec) (hb : c.code = cc) (hr : meth.sig.returnType = rt) (hlocks : meth.locks = false) :
    ab_End l g cc rt m' p e R s mi args below meth c A cf sf (vx_MQ below (ab_Qc g m' o A) (ab_XC g m' o A) args s cf sf A) o := by
  cases o with
  | inr k => exact ⟨_, _, cf, sf, A, rfl, fun t ha hw hF => ⟨rfl, hw, hF⟩, fun q h => h, Nat.le_refl _, Nat.le_refl _⟩
  | inl v =>
    intro H' locs' ls' pc' hw hS hra
    refine vx_ret ?_
    have hf : ∀ q ∈ locs', A q.base := hS.2.2
    have hq : ∀ t : State, t.heap = H' → s.WarmedH t.vm → ab_Qc g m' (.inl v) A args s (.returned (v.map (ab_v g))) t := fun t ht _ => ⟨rfl, by rw [ht]; exact hw, hS.F ht⟩
    cases v with
    | none =>
      obtain ⟨h1, h2⟩ := hra
      exact W.vret hx hb (hr.trans h1) hq hf h2 hlocks
    | some v =>
      cases v with
      | int v =>
        obtain ⟨ty, h1, h2, h3⟩ := hra
        exact W.zret hx hb (hr.trans h1) h2 hq hf h3 hlocks
      | long v =>
        obtain ⟨h1, h2⟩ := hra
        exact W.lret hx hb (hr.trans h1) hq hf h2 hlocks
      | double v =>
        obtain ⟨h1, h2⟩ := hra
        exact W.dret hx hb (hr.trans h1) hq hf h2 hlocks
      | float _ => exact hra.elim
      | null => exact hra.elim
      | ref _ => exact hra.elim
      | retAddr _ => exact hra.elim
set_option maxHeartbeats 1000000 in
/-- a method without handlers: its body's walk gives its contract -/
theorem ab_of {l : Launch} (hl0 : l.stackTraces = false) {g : ab_G} {y : MethodName} {cc : ByteArray} {own : String} {nL : Nat} {rt : Option FieldType} {ini : Bool} {d : Nat} {As : List Value} {m m' : ab_Mm} {o : ab_O} (hy : plainName y.cls = true) (hn : (lg_sl As).length ≤ nL) (hi : ini = true → y.name = "<init>") (ho : y.cls = own)
    (k : ab_W l g cc own nL rt [] ini d o m' 0 (lv_args 0 As) [] m) : ab_Met l g y cc nL rt [] d As m o m' := by
  refine ⟨k.1, fun sz => ?_⟩
  refine vx_ofW (cc := cc) (maxL := nL) (ret := rt) hy rfl ?_
  intro p e s mi args below meth c s₁ B hml hex hv
  obtain ⟨rfl, hsz, hbu, hEF, hWH⟩ := hv
  have hts := atoms_spec (ws := ab_cw y cc nL rt [] :: ab_tb) B.pre
  have hl := lv_entry (ab_s g As) (n := nL) (by rw [ab_sl]; exact hn)
  rw [lg_entry_eq]
  rw [ab_args] at hl
  subst hsz
  have hnm := name_of_methodNamed B.named B.method
  have hex2 : c.exceptionTable.toList = tableOf [] := by
    cases he : c.exceptionTable.toList with
    | nil => rfl
    | cons x xs => exact (hex x (by rw [he]; exact List.mem_cons_self)).elim
  refine k.2 p e _ s mi _ below meth c (va_A (ab_ws g m) s.heap.size) (ab_nc m' - ab_nc m) (ab_ns m' - ab_ns m) _ s.heap [] 0 0 _ ⟨B.exec, B.bytes, hml, ?_, hl0, B.notSynchronized, fun w h => hts w (List.mem_cons_of_mem _ h), hEF, fun q h => Or.inr h, fun h => hnm.1.trans (hi h), B.returns, hex2⟩ ⟨Nat.le_refl _, Nat.le_refl _, Nat.le_refl _, Nat.le_refl _⟩ (ab_endW B.exec B.bytes B.returns B.notSynchronized) hWH va_S.rf hl ⟨by have := k.1.1; omega, by have := k.1.2.1; omega, hbu⟩
  rw [← ho]
  exact findClass_of_methodNamed B.named
set_option maxHeartbeats 1000000 in
/-- the same, of a method with handlers -/
theorem ab_ofH {l : Launch} (hl0 : l.stackTraces = false) {g : ab_G} {y : MethodName} {cc : ByteArray} {own : String} {nL : Nat} {rt : Option FieldType} {h0 : Nat × Nat × Nat × Nat} {hh : List (Nat × Nat × Nat × Nat)} {d : Nat} {As : List Value} {m m' : ab_Mm} {o : ab_O} (hy : plainName y.cls = true) (hn : (lg_sl As).length ≤ nL) (ho : y.cls = own)
    (k : ab_W l g cc own nL rt (h0 :: hh) false d o m' 0 (lv_args 0 As) [] m) : ab_Met l g y cc nL rt (h0 :: hh) d As m o m' := by
  refine ⟨k.1, fun sz => ?_⟩
  refine vx_ofWH (cc := cc) (maxL := nL) (ret := rt) (hh := h0 :: hh) hy rfl ?_
  intro p e s mi args below meth c s₁ B hml hv
  obtain ⟨rfl, hsz, hbu, hEF, hWH⟩ := hv
  have hts := atoms_spec (ws := ab_cw y cc nL rt (h0 :: hh) :: ab_tb) B.pre
  have hl := lv_entry (ab_s g As) (n := nL) (by rw [ab_sl]; exact hn)
  rw [lg_entry_eq]
  rw [ab_args] at hl
  subst hsz
  have hex2 : c.exceptionTable.toList = tableOf (h0 :: hh) := vx_table (x := y) B (hts _ List.mem_cons_self)
  refine k.2 p e _ s mi _ below meth c (va_A (ab_ws g m) s.heap.size) (ab_nc m' - ab_nc m) (ab_ns m' - ab_ns m) _ s.heap [] 0 0 _ ⟨B.exec, B.bytes, hml, ?_, hl0, B.notSynchronized, fun w h => hts w (List.mem_cons_of_mem _ h), hEF, fun q h => Or.inr h, fun h => (by cases h), B.returns, hex2⟩ ⟨Nat.le_refl _, Nat.le_refl _, Nat.le_refl _, Nat.le_refl _⟩ (ab_endW B.exec B.bytes B.returns B.notSynchronized) hWH va_S.rf hl ⟨by have := k.1.1; omega, by have := k.1.2.1; omega, hbu⟩
  rw [← ho]
  exact findClass_of_methodNamed B.named
