/-! ===== the rows of the logic: calls ===== -/
def ab_mfV (y : MethodName) (cc2 : ByteArray) (nL2 : Nat) (rt2 : Option FieldType) (n : Nat) : Prop := Cond.instanceMethod y ∈ ab_tb ∧ Cond.selects y.cls y y ∈ ab_tb ∧ Cond.initialized y.cls ∈ ab_tb ∧ Cond.code y cc2 nL2 rt2 ∈ ab_tb ∧ (y.cls ≠ "java/lang/invoke/MethodHandle" ∧ y.cls ≠ "java/lang/invoke/VarHandle" ∧ (parseMethodDescriptor y.desc).map (fun d => d.parameters.length) = some n) ∧ nL2 ≤ 40
def ab_mfS (y : MethodName) (cc2 : ByteArray) (nL2 : Nat) (rt2 : Option FieldType) (n : Nat) : Prop := Cond.static y ∈ ab_tb ∧ Cond.initialized y.cls ∈ ab_tb ∧ Cond.code y cc2 nL2 rt2 ∈ ab_tb ∧ (y.cls ≠ "java/lang/invoke/MethodHandle" ∧ y.cls ≠ "java/lang/invoke/VarHandle" ∧ (parseMethodDescriptor y.desc).map (fun d => d.parameters.length) = some n) ∧ nL2 ≤ 40
def ab_mfH (y : MethodName) (cc2 : ByteArray) (nL2 : Nat) (rt2 : Option FieldType) (hh2 : List (Nat × Nat × Nat × Nat)) (n : Nat) : Prop := Cond.static y ∈ ab_tb ∧ Cond.initialized y.cls ∈ ab_tb ∧ Cond.codeWith y cc2 nL2 rt2 hh2 ∈ ab_tb ∧ (y.cls ≠ "java/lang/invoke/MethodHandle" ∧ y.cls ≠ "java/lang/invoke/VarHandle" ∧ (parseMethodDescriptor y.desc).map (fun d => d.parameters.length) = some n) ∧ nL2 ≤ 40
def ab_mfI (y : MethodName) (cc2 : ByteArray) (nL2 : Nat) (n : Nat) : Prop := Cond.instanceMethod y ∈ ab_tb ∧ Cond.initialized y.cls ∈ ab_tb ∧ Cond.code y cc2 nL2 none ∈ ab_tb ∧ (y.cls ≠ "java/lang/invoke/MethodHandle" ∧ y.cls ≠ "java/lang/invoke/VarHandle" ∧ (parseMethodDescriptor y.desc).map (fun d => d.parameters.length) = some n) ∧ nL2 ≤ 40 ∧ y.name = "<init>"
theorem ab_good2 {ws : List Cond} (h : ∀ w ∈ ws, w ∈ ab_tb) : GoodIn ab_tb ws := fun w hw => ab_tb_good w (h w hw)
theorem ab_consT {w : Cond} (h : w ∈ ab_tb) : ∀ v ∈ w :: ab_tb, v ∈ ab_tb := fun v hv => (List.mem_cons.mp hv).elim (fun e => by rw [e]; exact h) id
theorem ab_toMet {l : Launch} {y : MethodName} {ws : List Cond} {rm : Room} {Pc : Array Value → State → Prop} {Qc : Array Value → State → Outcome → State → Prop} {XC : String → State → State → Prop} {mc ms : Nat} {free : Addr → Prop} (h : vx_Met l y ws rm Pc Qc XC mc ms free) (hX : ∀ E st t, ¬ XC E st t) : Met l y ws rm Pc Qc mc ms free := by
  intro p e ha hc hk s m args below hf happ hP hK
  obtain ⟨n, o, h1, h2, h3, h4⟩ := h p e ha hc hk s m args below hf happ hP hK
  rcases h4 with h4 | ⟨q, -, E, ce, L, hx, -⟩
  · exact ⟨n, o, h1, h2, h3, h4⟩
  · exact (hX _ _ _ hx).elim
theorem ab_vtl (g : ab_G) (v : Option Value) : (v.map (ab_v g)).toList = v.toList.map (ab_v g) := by cases v <;> rfl
section RL
variable {p : Program} {l : Launch} {e : Env} {R : Room} {s : State} {mi : MethodId} {args : Array Value} {below : List Frame} {meth : Method} {c : Code} {H : Heap} {locs : List Loc} {cells slots mc ms pc : Nat} {Q : State → Prop} {g : ab_G} {m m2 : ab_Mm} {A : Nat → Prop} {ls : Array Slot} {st0 rest : List Value}
theorem ab_WH_wk {B : Nat → Prop} {H1 : Heap} (h : ab_WH g m2 A H1) (hAB : ∀ q, A q → B q) : ab_WH g m2 B H1 := ⟨h.1, h.2.1.weaken (fun _ _ _ q => hAB _ q), h.2.2⟩
theorem ab_goon {v : Option Value} {A1 : Nat → Prop} {a : Array Value} (hr : vx_Run p l e R s mi args below meth c H locs cells slots mc ms (F0 mi pc ls st0) rest (ab_Qc g m2 (.inl v) A1 a) (ab_XC g m2 (.inl v) A1) A1) (hS : va_S A s.heap H locs) (hA1 : ∀ q, A1 q → A q)
    (kk : ∀ (H1 : Heap) (locs1 : List Loc), ab_WH g m2 A H1 → va_S A s.heap H1 locs1 → W p l e R s mi args below meth c H1 locs1 (cells + mc) (slots + ms) Q (F0 mi (pc + 3) ls (v.toList.map (ab_v g) ++ rest))) : W p l e R s mi args below meth c H locs cells slots Q (F0 mi pc ls st0) := by
  intro T hT X
  rcases hr T hT X with ⟨w, st₀, t, T', L, h0, X', hL, e1, e2, ⟨hv, hw, hF⟩, stp⟩ | ⟨q, st₀, t, T', L, E, ce, h0, X', hL, e1, e2, hx, -⟩
  · cases hv
    obtain ⟨k1, k2, k3⟩ := vx_keep h0 e1 hS (fun q _ h => hA1 q h) hA1 hL hF
    have k4 := kk T'.heap (locs ++ L) (by rw [e1]; exact ab_WH_wk hw hA1) k3
    rw [← ab_vtl] at k4
    obtain ⟨t2, a1, b1⟩ := k4 T' rfl X'
    exact ⟨t2, stp t2 a1, b1⟩
  · exact hx.elim
theorem ab_goonX {k : Nat} {A1 : Nat → Prop} {a : Array Value} (hr : vx_Run p l e R s mi args below meth c H locs cells slots mc ms (F0 mi pc ls st0) rest (ab_Qc g m2 (.inr k) A1 a) (ab_XC g m2 (.inr k) A1) A1) (hS : va_S A s.heap H locs) (hA1 : ∀ q, A1 q → A q)
    (kx : ∀ (H1 : Heap) (locs1 : List Loc) (ce : Cell) (q9 : Addr), ab_WH g m2 A H1 → va_S A s.heap H1 locs1 → H1[q9]? = some ce → ce.vm = .none → s.vm.findClass (ab_xn k) = some ce.cls → vx_W p l e R s mi args below meth c H1 locs1 (cells + mc) (slots + ms) Q (F0 mi pc ls rest) q9) : W p l e R s mi args below meth c H locs cells slots Q (F0 mi pc ls st0) := by
  intro T hT X
  rcases hr T hT X with ⟨w, st₀, t, T', L, h0, X', hL, e1, e2, hv, stp⟩ | ⟨q, st₀, t, T', L, E, ce, h0, X', hL, e1, e2, ⟨hE, hw, hF⟩, hce, hcv, hcl, stp⟩
  · exact hv.elim
  · subst hE
    obtain ⟨k1, k2, k3⟩ := vx_keep h0 e1 hS (fun q _ h => hA1 q h) hA1 hL hF
    obtain ⟨t2, a1, b1⟩ := kx T'.heap (locs ++ L) ce q (by rw [e1]; exact ab_WH_wk hw hA1) k3 (by rw [e1]; exact hce) hcv hcl T' rfl X'
    exact ⟨t2, stp.trans a1, b1⟩
/-- what a callee's start asks, out of the caller's place -/
theorem ab_PcOf {As : List Value} (wh : ab_WH g m A H) (hE : ab_EF g A s) (hA : ∀ q, s.heap.size ≤ q → A q) (hS : va_S A s.heap H locs) (hsz : H.size ≤ s.heap.size + cells) (hb : m.2.2.2 = 0 → s.heap.size + cells ≤ g.2.2.2.1 + m.1.length) : ∀ U : State, U.heap = H → s.WarmedH U.vm → ab_Pc g As m H.size (ab_s g As).toArray U := by
  intro U hU hW
  refine ⟨rfl, by rw [hU], fun q => Nat.le_trans hsz (hb q), ab_EF_to hE hW (by rw [hU]; exact hS.1) (fun a q1 q2 => by rw [hU]; exact hS.2.1 a q1 q2) (ab_wsA wh.2.1 hS hA), ?_⟩
  rw [hU]
  exact ⟨wh.1, wh.2.1.self, wh.2.2⟩
end RL
/-- the receiver is an object of the class C -/
def ab_rcv (m : ab_Mm) (C : String) (r : Nat) : Prop := (∃ (ci N : Nat) (T : u_T) (fs : List (Option (Option Nat))), m.1[r]? = some (0, ci, fs) ∧ vwCl[ci]? = some (C, T, N)) ∨ (C = "java/lang/String" ∧ ∃ i, i < 24 ∧ r = 1000 + 2 * i)
/-- a look at the receiver -/
def ab_rc (m : ab_Mm) (ci r : Nat) : Option Unit := match m.1[r]? with
  | some (0, c, _) => cond (Nat.beq c ci) (some ()) none
  | _ => none
def ab_rs (r : Nat) : Option Unit := if 1000 ≤ r ∧ r < 1048 ∧ r % 2 = 0 then some () else none
theorem ab_rcv_of {m : ab_Mm} {C : String} {ci N r : Nat} {T : u_T} {u : Unit} (h : ab_rc m ci r = some u) (hc : vwCl[ci]? = some (C, T, N)) : ab_rcv m C r := by
  unfold ab_rc at h
  split at h
  · rename_i c fs hm
    cases hb : Nat.beq c ci with
    | true =>
      rw [Nat.eq_of_beq_eq_true hb] at hm
      exact Or.inl ⟨ci, N, T, fs, hm, hc⟩
    | false => rw [hb] at h; cases h
  · cases h
theorem ab_rcv_s {m : ab_Mm} {r : Nat} {u : Unit} (h : ab_rs r = some u) : ab_rcv m "java/lang/String" r := by
  unfold ab_rs at h
  split at h
  · rename_i hc
    exact Or.inr ⟨rfl, ab_even hc⟩
  · cases h
section RK
variable {l : Launch} {g : ab_G} {cc : ByteArray} {own : String} {nL : Nat} {rt : Option FieldType} {hh : List (Nat × Nat × Nat × Nat)} {ini : Bool} {d : Nat} {o : ab_O} {m' : ab_Mm} {pc : Nat} {L : ab_L} {st stk : List Value} {m : ab_Mm}
variable {y : MethodName} {cc2 : ByteArray} {nL2 d2 r index n : Nat} {rt2 : Option FieldType} {As : List Value} {m2 : ab_Mm}
theorem ab_runV {o2 : ab_O} (hM : ab_Met l g y cc2 nL2 rt2 [] d2 (.ref r :: As) m o2 m2) (hd : decode cc pc = .ok (.invokevirtual index, 3)) (hlk : Cond.methodLink own index y ∈ ab_tb) (hk : ab_mfV y cc2 nL2 rt2 n) (hrc : ab_rcv m y.cls r) (hn : As.length = n) (hst : stk = As.reverse ++ .ref r :: st) (hcat : (st.map fun v => v.category).sum ≤ 8) (hmo : ab_mo m2 m')
    {p : Program} {e : Env} {R : Room} {s : State} {mi : MethodId} {args : Array Value} {below : List Frame} {meth : Method} {c : Code} {A : Nat → Prop} {cf sf : Nat} {H : Heap} {locs : List Loc} {cells slots : Nat} {ls : Array Slot} (cx : ab_CX l g cc own nL rt hh ini p s mi args meth c A) (hr : (d2 + 1) + 12 ≤ R.frames ∧ 60 * (d2 + 1) + 400 ≤ R.locals ∧ cf ≤ R.cells ∧ sf ≤ R.slots) (wh : ab_WH g m A H) (hS : va_S A s.heap H locs) (hl : lv_has ls nL (ab_l g L)) (hz : cells + ab_nc m' = cf + ab_nc m ∧ slots + ab_ns m' = sf + ab_ns m ∧ (m.2.2.2 = 0 → s.heap.size + cells ≤ g.2.2.2.1 + m.1.length)) (hsz : H.size ≤ s.heap.size + cells) :
    vx_Run p l e R s mi args below meth c H locs cells slots (ab_nc m2 - ab_nc m) (ab_ns m2 - ab_ns m) (F0 mi pc ls (ab_s g stk)) (ab_s g st) (ab_Qc g m2 o2 (va_A (ab_ws g m) H.size) (ab_s g (.ref r :: As)).toArray) (ab_XC g m2 o2 (va_A (ab_ws g m) H.size)) (va_A (ab_ws g m) H.size) := by
  obtain ⟨q1, q2, q3, q4, q5, q6⟩ := hk
  have hts := cx.2.2.2.2.2.2.1
  have hG : GoodIn ab_tb (wsV own index y.cls y (ab_cw y cc2 nL2 rt2 [] :: ab_tb)) := by
    refine ab_good2 (fun w hw => ?_)
    rcases List.mem_append.mp hw with h | h
    · simp only [List.mem_cons, List.not_mem_nil, or_false] at h
      rcases h with rfl | rfl | rfl | rfl
      · exact hlk
      · exact q1
      · exact q2
      · exact q3
    · exact ab_consT (w := .code y cc2 nL2 rt2) q4 w h
  have hm1 := hM.1
  refine vx_runV (Ts := ab_tb) (own := own) (C := y.cls) (index := index) (bytes := cc2) (maxL := nL2) (ret := rt2) (n := n) (As := ab_s g As) (nL := nL) (cc := cc) ⟨cx.1, cx.2.1, cx.2.2.1, cx.2.2.2.1, hts⟩ (hM.2 H.size) (cwV n hts hG rfl rfl rfl ⟨rfl, q5⟩ ⟨?_, ?_⟩) ⟨ab_Pc_blind _ _ _ _, ?_, ab_PcOf (As := .ref r :: As) wh cx.2.2.2.2.2.2.2.1 cx.2.2.2.2.2.2.2.2.1 hS hsz hz.2.2⟩ rfl (by rw [List.length_map]; exact hn) hl.1 ?_ ?_ hd ⟨?_, ?_⟩
  · show d2 + 12 + 1 ≤ R.frames; omega
  · show 8 + (nL2 + 11) + (60 * d2 + 400) ≤ R.locals; omega
  · rcases hrc with ⟨ci, N, T, fs, h1, h2⟩ | ⟨h1, i, h2, rfl⟩
    · exact va_recv (q := (y.cls, T, N)) cx.2.2.2.2.2.2.2.1.2.1 wh.1 h2 (ab_ws_of h1)
    · obtain ⟨cell, w1, w2, w3, -⟩ := (cx.2.2.2.2.2.2.2.1.2.2.2.2.1 i h2).1.kept hS.2.1
      exact ⟨cell, w1, w2, by rw [h1]; exact w3⟩
  · show ab_s g stk = (ab_s g As).reverse ++ .ref (g.2.2.1 r) :: ab_s g st
    rw [hst, ab_s, List.map_append, List.map_reverse]
    rfl
  · have h9 := ab_cat g hcat
    show 2 * 0 + ((st.map (ab_v g)).map fun v => v.category).sum ≤ 8
    omega
  · have := hmo.1; have := hz.1; have := hm1.1; omega
  · have := hmo.2.1; have := hz.2.1; have := hm1.2.1; omega
theorem ru_callV {v : Option Value} (hM : ab_Met l g y cc2 nL2 rt2 [] d2 (.ref r :: As) m (.inl v) m2) (hd : decode cc pc = .ok (.invokevirtual index, 3)) (hdp : d = d2 + 1) (hlk : Cond.methodLink own index y ∈ ab_tb) (hk : ab_mfV y cc2 nL2 rt2 n) (hrc : ab_rcv m y.cls r) (hn : As.length = n) (hst : stk = As.reverse ++ .ref r :: st) (hcat : (st.map fun v => v.category).sum ≤ 8)
    (k : ab_W l g cc own nL rt hh ini d o m' (pc + 3) L (v.toList ++ st) m2) : ab_W l g cc own nL rt hh ini d o m' pc L stk m := by
  subst hdp
  have hm1 := hM.1
  have hm2 := k.1
  refine ⟨⟨Nat.le_trans hm1.1 hm2.1, Nat.le_trans hm1.2.1 hm2.2.1, Nat.le_trans hm1.2.2 hm2.2.2⟩, fun p e R s mi args below meth c A cf sf Q H locs cells slots ls cx hr he wh hS hl hz => ?_⟩
  refine ab_Wsz (fun hsz => ?_)
  refine ab_goon (ab_runV (m' := m') hM hd hlk hk hrc hn hst hcat hm2 cx hr wh hS hl hz hsz) hS (ab_wsA wh.2.1 hS cx.2.2.2.2.2.2.2.2.1) (fun H1 locs1 wh1 hS1 => ?_)
  have k1 := k.2 p e R s mi args below meth c A cf sf Q H1 locs1 (cells + (ab_nc m2 - ab_nc m)) (slots + (ab_ns m2 - ab_ns m)) ls cx hr he wh1 hS1 hl ⟨by have := hz.1; have := hm1.1; omega, by have := hz.2.1; have := hm1.2.1; omega, fun q => ?_⟩
  · rw [ab_s, List.map_append] at k1
    exact k1
  · have h0 : m.2.2.2 = 0 := by have := hm1.2.2; omega
    have h1 := hz.2.2 h0
    have h2 : ab_nc m2 = m2.1.length + m2.2.2.2 := rfl
    have h3 : ab_nc m = m.1.length + m.2.2.2 := rfl
    have h4 := hm1.1
    omega
/-- the callee throws, and this method has no handlers -/
theorem ru_callVX {k : Nat} (hM : ab_Met l g y cc2 nL2 rt2 [] d2 (.ref r :: As) m (.inr k) m') (hd : decode cc pc = .ok (.invokevirtual index, 3)) (hdp : d = d2 + 1) (hlk : Cond.methodLink own index y ∈ ab_tb) (hk : ab_mfV y cc2 nL2 rt2 n) (hrc : ab_rcv m y.cls r) (hn : As.length = n) (hst : stk = As.reverse ++ .ref r :: st) (hcat : (st.map fun v => v.category).sum ≤ 8) (hh0 : hh = []) :
    ab_W l g cc own nL rt hh ini d (.inr k) m' pc L stk m := by
  subst hdp
  have hm1 := hM.1
  refine ⟨hm1, fun p e R s mi args below meth c A cf sf Q H locs cells slots ls cx hr he wh hS hl hz => ?_⟩
  refine ab_Wsz (fun hsz => ?_)
  refine ab_goonX (ab_runV (m' := m') hM hd hlk hk hrc hn hst hcat ⟨Nat.le_refl _, Nat.le_refl _, Nat.le_refl _⟩ cx hr wh hS hl hz hsz) hS (ab_wsA wh.2.1 hS cx.2.2.2.2.2.2.2.2.1) (fun H1 locs1 ce q9 wh1 hS1 hce hcv hcl => ?_)
  obtain ⟨Qc, XC, mc, ms, free, rfl, hX, hfr, hc1, hc2⟩ := he
  have hex := cx.2.2.2.2.2.2.2.2.2.2.2
  subst hh0
  refine vx_out (fun x hx => by rw [hex] at hx; cases hx) cx.2.2.2.2.2.1 hce hcv hcl (fun t ht ha => hX t ha (by rw [ht]; exact wh1) (hS1.F ht)) (fun z hz => hfr _ (hS1.2.2 z hz)) (by have := hz.1; have := hm1.1; omega) (by have := hz.2.1; have := hm1.2.1; omega)
end RK
