/-! ===== the rows of the logic: static calls, constructors, throws, catches ===== -/
section RK2
variable {l : Launch} {g : ab_G} {cc : ByteArray} {own : String} {nL : Nat} {rt : Option FieldType} {hh : List (Nat × Nat × Nat × Nat)} {ini : Bool} {d : Nat} {o : ab_O} {m' : ab_Mm} {pc : Nat} {L : ab_L} {st stk : List Value} {m : ab_Mm}
variable {y : MethodName} {cc2 : ByteArray} {nL2 d2 r index n : Nat} {rt2 : Option FieldType} {As : List Value} {m2 : ab_Mm}
/-- behind a call that returns -/
theorem ab_behind {v : Option Value} (hm1 : ab_mo m m2) (k : ab_W l g cc own nL rt hh ini (d2 + 1) o m' (pc + 3) L (v.toList ++ st) m2)
    (hrun : ∀ (p : Program) (e : Env) (R : Room) (s : State) (mi : MethodId) (args : Array Value) (below : List Frame) (meth : Method) (c : Code) (A : Nat → Prop) (cf sf : Nat) (H : Heap) (locs : List Loc) (cells slots : Nat) (ls : Array Slot), ab_CX l g cc own nL rt hh ini p s mi args meth c A → ((d2 + 1) + 12 ≤ R.frames ∧ 60 * (d2 + 1) + 400 ≤ R.locals ∧ cf ≤ R.cells ∧ sf ≤ R.slots) → ab_WH g m A H → va_S A s.heap H locs → lv_has ls nL (ab_l g L) → (cells + ab_nc m' = cf + ab_nc m ∧ slots + ab_ns m' = sf + ab_ns m ∧ (m.2.2.2 = 0 → s.heap.size + cells ≤ g.2.2.2.1 + m.1.length)) → H.size ≤ s.heap.size + cells →
      ∃ a, vx_Run p l e R s mi args below meth c H locs cells slots (ab_nc m2 - ab_nc m) (ab_ns m2 - ab_ns m) (F0 mi pc ls (ab_s g stk)) (ab_s g st) (ab_Qc g m2 (.inl v) (va_A (ab_ws g m) H.size) a) (ab_XC g m2 (.inl v) (va_A (ab_ws g m) H.size)) (va_A (ab_ws g m) H.size)) : ab_W l g cc own nL rt hh ini (d2 + 1) o m' pc L stk m := by
  have hm2 := k.1
  refine ⟨⟨Nat.le_trans hm1.1 hm2.1, Nat.le_trans hm1.2.1 hm2.2.1, Nat.le_trans hm1.2.2 hm2.2.2⟩, fun p e R s mi args below meth c A cf sf Q H locs cells slots ls cx hr he wh hS hl hz => ?_⟩
  refine ab_Wsz (fun hsz => ?_)
  obtain ⟨a, hrn⟩ := hrun p e R s mi args below meth c A cf sf H locs cells slots ls cx hr wh hS hl hz hsz
  refine ab_goon hrn hS (ab_wsA wh.2.1 hS cx.2.2.2.2.2.2.2.2.1) (fun H1 locs1 wh1 hS1 => ?_)
  have k1 := k.2 p e R s mi args below meth c A cf sf Q H1 locs1 (cells + (ab_nc m2 - ab_nc m)) (slots + (ab_ns m2 - ab_ns m)) ls cx hr he wh1 hS1 hl ⟨by have := hz.1; have := hm1.1; omega, by have := hz.2.1; have := hm1.2.1; omega, fun q => ?_⟩
  · rw [ab_s, List.map_append] at k1
    exact k1
  · have h0 : m.2.2.2 = 0 := by have := hm1.2.2; omega
    have h1 := hz.2.2 h0
    have h2 : ab_nc m2 = m2.1.length + m2.2.2.2 := rfl
    have h3 : ab_nc m = m.1.length + m.2.2.2 := rfl
    have h4 := hm1.1
    omega
theorem ru_callS {v : Option Value} (hM : ab_Met l g y cc2 nL2 rt2 [] d2 As m (.inl v) m2) (hd : decode cc pc = .ok (.invokestatic index, 3)) (hdp : d = d2 + 1) (hlk : Cond.methodLink own index y ∈ ab_tb) (hk : ab_mfS y cc2 nL2 rt2 n) (hn : As.length = n) (hst : stk = As.reverse ++ st) (hcat : (st.map fun v => v.category).sum ≤ 8)
    (k : ab_W l g cc own nL rt hh ini d o m' (pc + 3) L (v.toList ++ st) m2) : ab_W l g cc own nL rt hh ini d o m' pc L stk m := by
  subst hdp
  refine ab_behind hM.1 k (fun p e R s mi args below meth c A cf sf H locs cells slots ls cx hr wh hS hl hz hsz => ⟨(ab_s g As).toArray, ?_⟩)
  have hm1 := hM.1
  have hmo := k.1
  obtain ⟨q1, q3, q4, q5, q6⟩ := hk
  have hts := cx.2.2.2.2.2.2.1
  have hG : GoodIn ab_tb (va_wsS own index y (ab_cw y cc2 nL2 rt2 [] :: ab_tb)) := by
    refine ab_good2 (fun w hw => ?_)
    rcases List.mem_append.mp hw with h | h
    · simp only [List.mem_cons, List.not_mem_nil, or_false] at h
      rcases h with rfl | rfl | rfl
      · exact hlk
      · exact q1
      · exact q3
    · exact ab_consT (w := .code y cc2 nL2 rt2) q4 w h
  refine vx_runS (Ts := ab_tb) (own := own) (index := index) (bytes := cc2) (maxL := nL2) (ret := rt2) (n := n) (As := ab_s g As) (nL := nL) (cc := cc) ⟨cx.1, cx.2.1, cx.2.2.1, cx.2.2.2.1, hts⟩ (hM.2 H.size) (va_cwS n hts hG rfl rfl rfl q5 ⟨?_, ?_⟩) ⟨ab_Pc_blind _ _ _ _, ab_PcOf (As := As) wh cx.2.2.2.2.2.2.2.1 cx.2.2.2.2.2.2.2.2.1 hS hsz hz.2.2⟩ rfl (by rw [List.length_map]; exact hn) hl.1 ?_ ?_ hd ⟨?_, ?_⟩
  · show d2 + 12 + 1 ≤ R.frames; omega
  · show 8 + (nL2 + 11) + (60 * d2 + 400) ≤ R.locals; omega
  · show ab_s g stk = (ab_s g As).reverse ++ ab_s g st
    rw [hst, ab_s, List.map_append, List.map_reverse]
  · have h9 := ab_cat g hcat
    show 2 * 0 + ((st.map (ab_v g)).map fun v => v.category).sum ≤ 8
    omega
  · have := hmo.1; have := hz.1; have := hm1.1; omega
  · have := hmo.2.1; have := hz.2.1; have := hm1.2.1; omega
/-- a static method with handlers of its own -/
theorem ru_callSH {v : Option Value} {h0 : Nat × Nat × Nat × Nat} {hh2 : List (Nat × Nat × Nat × Nat)} (hM : ab_Met l g y cc2 nL2 rt2 (h0 :: hh2) d2 As m (.inl v) m2) (hd : decode cc pc = .ok (.invokestatic index, 3)) (hdp : d = d2 + 1) (hlk : Cond.methodLink own index y ∈ ab_tb) (hk : ab_mfH y cc2 nL2 rt2 (h0 :: hh2) n) (hn : As.length = n) (hst : stk = As.reverse ++ st) (hcat : (st.map fun v => v.category).sum ≤ 8)
    (k : ab_W l g cc own nL rt hh ini d o m' (pc + 3) L (v.toList ++ st) m2) : ab_W l g cc own nL rt hh ini d o m' pc L stk m := by
  subst hdp
  refine ab_behind hM.1 k (fun p e R s mi args below meth c A cf sf H locs cells slots ls cx hr wh hS hl hz hsz => ⟨(ab_s g As).toArray, ?_⟩)
  have hm1 := hM.1
  have hmo := k.1
  obtain ⟨q1, q3, q4, q5, q6⟩ := hk
  have hts := cx.2.2.2.2.2.2.1
  have hG : GoodIn ab_tb (va_wsS own index y (ab_cw y cc2 nL2 rt2 (h0 :: hh2) :: ab_tb)) := by
    refine ab_good2 (fun w hw => ?_)
    rcases List.mem_append.mp hw with h | h
    · simp only [List.mem_cons, List.not_mem_nil, or_false] at h
      rcases h with rfl | rfl | rfl
      · exact hlk
      · exact q1
      · exact q3
    · exact ab_consT (w := .codeWith y cc2 nL2 rt2 (h0 :: hh2)) q4 w h
  refine vx_runSX (Ts := ab_tb) (own := own) (index := index) (bytes := cc2) (maxL := nL2) (ret := rt2) (hh := h0 :: hh2) (n := n) (As := ab_s g As) (nL := nL) (cc := cc) ⟨cx.1, cx.2.1, cx.2.2.1, cx.2.2.2.1, hts⟩ (hM.2 H.size) (vx_cwSW n hts hG rfl rfl rfl q5 ⟨?_, ?_⟩) ⟨ab_Pc_blind _ _ _ _, ab_PcOf (As := As) wh cx.2.2.2.2.2.2.2.1 cx.2.2.2.2.2.2.2.2.1 hS hsz hz.2.2⟩ rfl (by rw [List.length_map]; exact hn) hl.1 ?_ ?_ hd ⟨?_, ?_⟩
  · show d2 + 12 + 1 ≤ R.frames; omega
  · show 8 + (nL2 + 11) + (60 * d2 + 400) ≤ R.locals; omega
  · show ab_s g stk = (ab_s g As).reverse ++ ab_s g st
    rw [hst, ab_s, List.map_append, List.map_reverse]
  · have h9 := ab_cat g hcat
    show 2 * 0 + ((st.map (ab_v g)).map fun v => v.category).sum ≤ 8
    omega
  · have := hmo.1; have := hz.1; have := hm1.1; omega
  · have := hmo.2.1; have := hz.2.1; have := hm1.2.1; omega
theorem ab_vaRun {p : Program} {e : Env} {R : Room} {s : State} {mi : MethodId} {args : Array Value} {below : List Frame} {meth : Method} {c : Code} {H : Heap} {locs : List Loc} {cells slots mc ms : Nat} {g0 : JFrame} {rest : List Value} {Qa : State → Outcome → State → Prop} {XC : String → State → State → Prop} {free : Addr → Prop} (h : va_Run p l e R s mi args below meth c H locs cells slots mc ms g0 rest Qa free) : vx_Run p l e R s mi args below meth c H locs cells slots mc ms g0 rest Qa XC free := fun T hT X => Or.inl (h T hT X)
/-- a constructor: by a plain link, or a nest mate's -/
theorem ru_callI {v : Option Value} (hv : v = none) (hM : ab_Met l g y cc2 nL2 none [] d2 (.ref r :: As) m (.inl v) m2) (hd : decode cc pc = .ok (.invokespecial index, 3)) (hdp : d = d2 + 1) (hlk : Cond.methodLink own index y ∈ ab_tb ∨ ∃ host, Cond.methodLinkNest own index y host ∈ lw_tbl) (hk : ab_mfI y cc2 nL2 n) (hn : As.length = n) (hst : stk = As.reverse ++ .ref r :: st) (hcat : (st.map fun v => v.category).sum ≤ 8)
    (k : ab_W l g cc own nL rt hh ini d o m' (pc + 3) L st m2) : ab_W l g cc own nL rt hh ini d o m' pc L stk m := by
  subst hdp
  subst hv
  refine ab_behind (v := none) hM.1 k (fun p e R s mi args below meth c A cf sf H locs cells slots ls cx hr wh hS hl hz hsz => ⟨(ab_s g (.ref r :: As)).toArray, ?_⟩)
  have hm1 := hM.1
  have hmo := k.1
  obtain ⟨q1, q3, q4, q5, q6, q7⟩ := hk
  have hts := cx.2.2.2.2.2.2.1
  have hG : GoodIn ab_tb (ab_cw y cc2 nL2 none [] :: ab_tb) := ab_good2 (ab_consT (w := .code y cc2 nL2 none) q4)
  have hM2 := ab_toMet (hM.2 H.size) (fun E st t h => h)
  have hst2 : ab_s g stk = (ab_s g As).reverse ++ .ref (g.2.2.1 r) :: ab_s g st := by
    rw [hst, ab_s, List.map_append, List.map_reverse]
    rfl
  have h9 := ab_cat g hcat
  have hc9 : 2 * 0 + ((st.map (ab_v g)).map fun v => v.category).sum ≤ 8 := by omega
  have hp := ab_PcOf (As := .ref r :: As) wh cx.2.2.2.2.2.2.2.1 cx.2.2.2.2.2.2.2.2.1 hS hsz hz.2.2
  have hf : cells + (ab_nc m2 - ab_nc m) ≤ R.cells ∧ slots + (ab_ns m2 - ab_ns m) ≤ R.slots := ⟨by have := hmo.1; have := hz.1; have := hm1.1; omega, by have := hmo.2.1; have := hz.2.1; have := hm1.2.1; omega⟩
  have hR : (ab_rm d2 (ab_nc m2 - ab_nc m) (ab_ns m2 - ab_ns m)).frames + 1 ≤ R.frames ∧ 8 + (nL2 + 11) + (ab_rm d2 (ab_nc m2 - ab_nc m) (ab_ns m2 - ab_ns m)).locals ≤ R.locals := by
    constructor
    · show d2 + 12 + 1 ≤ R.frames; omega
    · show 8 + (nL2 + 11) + (60 * d2 + 400) ≤ R.locals; omega
  rcases hlk with hlk | ⟨host, hlk⟩
  · exact ab_vaRun (va_runI (Ts := ab_tb) (own := own) (index := index) (bytes := cc2) (maxL := nL2) (n := n) (b := g.2.2.1 r) (As := ab_s g As) (nL := nL) (cc := cc) ⟨cx.1, cx.2.1, cx.2.2.1, cx.2.2.2.1, hts⟩ hM2 (cwI n hts hG rfl rfl rfl (hts _ q3) (hts _ hlk) (hts _ q1) q7 q5 hR) ⟨ab_Pc_blind _ _ _ _, hp⟩ rfl (by rw [List.length_map]; exact hn) hl.1 hst2 hc9 hd hf)
  · exact ab_vaRun (va_runIN (Ts := ab_tb) (own := own) (index := index) (bytes := cc2) (maxL := nL2) (n := n) (b := g.2.2.1 r) (As := ab_s g As) (nL := nL) (cc := cc) ⟨cx.1, cx.2.1, cx.2.2.1, cx.2.2.2.1, hts⟩ hM2 ⟨va_cnB n hts hG rfl rfl rfl (cx.2.2.2.2.2.2.2.1.1.2 _ _ _ _ hlk) (hts _ q3) q5 hR, q7, hts _ q1⟩ ⟨ab_Pc_blind _ _ _ _, hp⟩ rfl (by rw [List.length_map]; exact hn) hl.1 hst2 hc9 hd hf)
end RK2
