/-! ===== the rows of the logic: throws, catches ===== -/
/-- the memory behind a throw -/
def ab_xm (m : ab_Mm) : ab_Mm := (m.1, m.2.1, m.2.2.1, m.2.2.2 + 1)
theorem ab_xm_nc (m : ab_Mm) : ab_nc (ab_xm m) = ab_nc m + 1 := rfl
theorem ab_xm_ns (m : ab_Mm) : ab_ns (ab_xm m) = ab_ns m + 6 := by
  show (m.1.map ab_z).sum + 6 * (m.2.2.2 + 1) = (m.1.map ab_z).sum + 6 * m.2.2.2 + 6
  omega
theorem ab_WH_x {g : ab_G} {m : ab_Mm} {A : Nat → Prop} {H H1 : Heap} (wh : ab_WH g m A H) (o1 : ∀ q : Nat, q < H.size → H1[q]? = H[q]?) : ab_WH g (ab_xm m) A H1 := ⟨wh.1.kept (fun k x hx => o1 x.1 ((wh.1 k x hx).lt)), wh.2.1, wh.2.2⟩
def ab_ds : List MethodName := [⟨"java/lang/RuntimeException", "<init>", "(Ljava/lang/String;)V"⟩, ⟨"java/lang/Exception", "<init>", "(Ljava/lang/String;)V"⟩, ⟨"java/lang/Throwable", "<init>", "(Ljava/lang/String;)V"⟩]
theorem ab_ds_in : ∀ x ∈ ab_ds, Cond.declares x ∈ lw_tbl := by decide +kernel
/-- the words of 'throw new E(text)' in the class own -/
def ab_lkX (own : String) (ik ic k : Nat) (names : List String) : Prop := k < 3 ∧ names.length ≤ 4 ∧ Bundle.fit (ab_xn k) = true ∧ (∀ n ∈ names, Bundle.fit n = true) ∧ Cond.classLink own ik (ab_xn k) ∈ ab_tb ∧ Cond.initialized (ab_xn k) ∈ ab_tb ∧ (∀ w ∈ (vx_atS own ic (ab_xn k) names).filter goodWord, w ∈ ab_tb) ∧ (∀ w ∈ (vx_atS own ic (ab_xn k) names).filter (fun w => !goodWord w), w ∈ Cond.castable (ab_xn k) (ab_xn k) :: ab_ds.map Cond.declares) ∧ ∀ w ∈ Cond.classLink own ik (ab_xn k) :: Cond.initialized (ab_xn k) :: vx_atS own ic (ab_xn k) names, vx_ot w = true
section RT
variable {l : Launch} {g : ab_G} {cc : ByteArray} {own : String} {nL : Nat} {rt : Option FieldType} {ini : Bool} {d : Nat} {pc : Nat} {L : ab_L} {st : List Value} {m : ab_Mm}
theorem ru_throwS {k ik is ic : Nat} {text : String} {names : List String} (hk : ab_lkX own ik ic k names) (htx : (own, is, text) ∈ ab_xt) (hcat : (st.map fun v => v.category).sum ≤ 8)
    (d0 : decode cc pc = .ok (.new ik, 3)) (d3 : decode cc (pc + 3) = .ok (.dup, 1)) (d4 : decode cc (pc + 4) = .ok (.ldc is, 2)) (d6 : decode cc (pc + 6) = .ok (.invokespecial ic, 3)) (d9 : decode cc (pc + 9) = .ok (.athrow, 1)) :
    ab_W l g cc own nL rt [] ini d (.inr k) (ab_xm m) pc L st m := by
  have hnc := ab_xm_nc m
  have hns := ab_xm_ns m
  refine ⟨⟨by omega, by omega, Nat.le_succ _⟩, fun p e R s mi args below meth c A cf sf Q H locs cells slots ls cx hr he wh hS hl hz => ?_⟩
  obtain ⟨k0, k1, k2, k3, k4, k5, k6, k7, k8⟩ := hk
  obtain ⟨Qc, XC, mc, ms, free, rfl, hX, hfr, hc1, hc2⟩ := he
  obtain ⟨c1, c2, c3, c4, c5, c6, hts, hE, hA, c10, c11, hex⟩ := cx
  obtain ⟨-, -, -, hxt, -, hU, hN, -, hCs, -⟩ := hE
  obtain ⟨sa, hsa⟩ := hxt _ htx
  have hcat2 := ab_cat g hcat
  have hat : ∀ w ∈ vx_atS own ic (ab_xn k) names, w.before args s = true := vx_hat (B := Cond.castable (ab_xn k) (ab_xn k) :: ab_ds.map Cond.declares) (fun w hw => hts w (k6 w hw)) k7 (vx_c (va_Nw.use rfl ((hCs.2 k k).1 rfl)) (fun w hw => by
    obtain ⟨x, hx, rfl⟩ := List.mem_map.mp hw
    exact va_Nw.use rfl (hCs.1 x (ab_ds_in x hx))))
  have := hr.1
  have := hr.2.1
  have := hz.1
  have := hz.2.1
  have := hr.2.2.1
  have := hr.2.2.2
  refine vx_throwS c1 c2 c5 (A := A) (names := names) c4 k2 k3 (hts _ k4) (hts _ k5) hsa hat k8 hU hN hS (hl.1.trans c3.symm) d0 d3 d4 d6 d9 (fun x hx => by rw [hex] at hx; cases hx) (by omega) ?_ (by omega) (by omega) c6 (fun t ha hle o1 => ?_) (fun z hz => hfr _ (hS.2.2 z hz)) (by omega) (by omega)
  · have h13 : 13 * (names.length + 1) ≤ 65 := by omega
    show ((st.map (ab_v g)).map fun v => v.category).sum + _ ≤ _
    omega
  · refine hX t ha (ab_WH_x wh o1) ⟨Nat.le_trans hS.1 hle, fun q q1 q2 => (o1 q (Nat.lt_of_lt_of_le q1 hS.1)).trans (hS.2.1 q q1 q2)⟩
theorem ru_throwSW {k ik is ic : Nat} {text : String} {names : List String} (hk : ab_lkX own ik ic k names) (htx : (own, is, text) ∈ ab_xt) (hcat : (st.map fun v => v.category).sum ≤ 8)
    (d0 : decode cc pc = .ok (.new ik, 3)) (d3 : decode cc (pc + 3) = .ok (.dup, 1)) (d4 : decode cc (pc + 4) = .ok (.ldc_w is, 3)) (d6 : decode cc (pc + 7) = .ok (.invokespecial ic, 3)) (d9 : decode cc (pc + 10) = .ok (.athrow, 1)) :
    ab_W l g cc own nL rt [] ini d (.inr k) (ab_xm m) pc L st m := by
  have hnc := ab_xm_nc m
  have hns := ab_xm_ns m
  refine ⟨⟨by omega, by omega, Nat.le_succ _⟩, fun p e R s mi args below meth c A cf sf Q H locs cells slots ls cx hr he wh hS hl hz => ?_⟩
  obtain ⟨k0, k1, k2, k3, k4, k5, k6, k7, k8⟩ := hk
  obtain ⟨Qc, XC, mc, ms, free, rfl, hX, hfr, hc1, hc2⟩ := he
  obtain ⟨c1, c2, c3, c4, c5, c6, hts, hE, hA, c10, c11, hex⟩ := cx
  obtain ⟨-, -, -, hxt, -, hU, hN, -, hCs, -⟩ := hE
  obtain ⟨sa, hsa⟩ := hxt _ htx
  have hcat2 := ab_cat g hcat
  have hat : ∀ w ∈ vx_atS own ic (ab_xn k) names, w.before args s = true := vx_hat (B := Cond.castable (ab_xn k) (ab_xn k) :: ab_ds.map Cond.declares) (fun w hw => hts w (k6 w hw)) k7 (vx_c (va_Nw.use rfl ((hCs.2 k k).1 rfl)) (fun w hw => by
    obtain ⟨x, hx, rfl⟩ := List.mem_map.mp hw
    exact va_Nw.use rfl (hCs.1 x (ab_ds_in x hx))))
  have := hr.1
  have := hr.2.1
  have := hz.1
  have := hz.2.1
  have := hr.2.2.1
  have := hr.2.2.2
  refine vx_throwSW c1 c2 c5 (A := A) (names := names) c4 k2 k3 (hts _ k4) (hts _ k5) hsa hat k8 hU hN hS (hl.1.trans c3.symm) d0 d3 d4 d6 d9 (fun x hx => by rw [hex] at hx; cases hx) (by omega) ?_ (by omega) (by omega) c6 (fun t ha hle o1 => ?_) (fun z hz => hfr _ (hS.2.2 z hz)) (by omega) (by omega)
  · have h13 : 13 * (names.length + 1) ≤ 65 := by omega
    show ((st.map (ab_v g)).map fun v => v.category).sum + _ ≤ _
    omega
  · refine hX t ha (ab_WH_x wh o1) ⟨Nat.le_trans hS.1 hle, fun q q1 q2 => (o1 q (Nat.lt_of_lt_of_le q1 hS.1)).trans (hS.2.1 q q1 q2)⟩
end RT
section RH
variable {l : Launch} {g : ab_G} {cc : ByteArray} {own : String} {nL : Nat} {rt : Option FieldType} {hh : List (Nat × Nat × Nat × Nat)} {ini : Bool} {d : Nat} {o : ab_O} {m' : ab_Mm} {pc : Nat} {L : ab_L} {st stk : List Value} {m : ab_Mm}
variable {y : MethodName} {cc2 : ByteArray} {nL2 d2 r index n : Nat} {rt2 : Option FieldType} {As : List Value} {m2 : ab_Mm}
/-- a handler's first instruction: it stores the exception -/
def ab_hst (cc : ByteArray) (pc i len : Nat) : Prop := (len = 1 ∧ ∃ q : Fin 4, (q : Nat) = i ∧ decode cc pc = .ok (.astore_n q, 1)) ∨ (len = 2 ∧ decode cc pc = .ok (.astore i, 2))
/-- the callee throws, and a handler of this method takes it -/
theorem ru_callVH {k i len : Nat} (hM : ab_Met l g y cc2 nL2 rt2 [] d2 (.ref r :: As) m (.inr k) m2) (hd : decode cc pc = .ok (.invokevirtual index, 3)) (hdp : d = d2 + 1) (hlk : Cond.methodLink own index y ∈ ab_tb) (hk : ab_mfV y cc2 nL2 rt2 n) (hrc : ab_rcv m y.cls r) (hn : As.length = n) (hst : stk = As.reverse ++ .ref r :: st) (hcat : (st.map fun v => v.category).sum ≤ 8)
    (pre suf : List (Nat × Nat × Nat × Nat)) (x : Nat × Nat × Nat × Nat) (hsp : hh = pre ++ x :: suf) (hpre : ∀ z ∈ pre, z.2.2.2 ≠ 0 ∧ ∃ j, j < 3 ∧ k < 3 ∧ k ≠ j ∧ Cond.classLink own z.2.2.2 (ab_xn j) ∈ ab_tb) (hcov : covers ⟨x.1, x.2.1, x.2.2.1, x.2.2.2⟩ pc = true) (hx0 : x.2.2.2 ≠ 0) (hlx : Cond.classLink own x.2.2.2 (ab_xn k) ∈ ab_tb) (hs0 : ab_hst cc x.2.2.1 i len) (hi : i < nL)
    (kk : ab_W l g cc own nL rt hh ini d o m' (x.2.2.1 + len) (ab_del i L) [] m2) : ab_W l g cc own nL rt hh ini d o m' pc L stk m := by
  subst hdp
  have hm1 := hM.1
  have hm2 := kk.1
  refine ⟨⟨Nat.le_trans hm1.1 hm2.1, Nat.le_trans hm1.2.1 hm2.2.1, Nat.le_trans hm1.2.2 hm2.2.2⟩, fun p e R s mi args below meth c A cf sf Q H locs cells slots ls cx hr he wh hS hl hz => ?_⟩
  refine ab_Wsz (fun hsz => ?_)
  refine ab_goonX (ab_runV (m' := m') hM hd hlk hk hrc hn hst hcat hm2 cx hr wh hS hl hz hsz) hS (ab_wsA wh.2.1 hS cx.2.2.2.2.2.2.2.2.1) (fun H1 locs1 ce q9 wh1 hS1 hce hcv hcl => ?_)
  have hex := cx.2.2.2.2.2.2.2.2.2.2.2
  have hts := cx.2.2.2.2.2.2.1
  have hCs := cx.2.2.2.2.2.2.2.1.2.2.2.2.2.2.2.2.1
  refine vx_catch (E := ab_xn k) (name := ab_xn k) cx.2.2.2.1 (tableOf pre) ⟨x.1, x.2.1, x.2.2.1, x.2.2.2⟩ (tableOf suf) (by rw [hex, hsp]; unfold tableOf; rw [List.map_append]; rfl) (fun z hz => ?_) hcov hx0 (hts _ hlx) (va_Nw.use rfl ((hCs.2 k k).1 rfl)) hce hcv hcl ?_
  · obtain ⟨w, hw, rfl⟩ := List.mem_map.mp hz
    obtain ⟨w1, j, w2, w3, w4, w5⟩ := hpre w hw
    exact Or.inr ⟨w1, ab_xn j, hts _ w5, (hCs.2 k j).2 w3 w2 w4⟩
  · have go : ∀ ls2 : Array Slot, lv_has ls2 nL ((i, Value.ref q9) :: (ab_l g L).filter (fun q => !(q.1 == i) && !(q.1 + 1 == i && q.2.category == 2))) → W p l e R s mi args below meth c H1 locs1 (cells + (ab_nc m2 - ab_nc m)) (slots + (ab_ns m2 - ab_ns m)) Q (F0 mi (x.2.2.1 + len) ls2 []) := by
      intro ls2 hl2
      refine kk.2 p e R s mi args below meth c A cf sf Q H1 locs1 (cells + (ab_nc m2 - ab_nc m)) (slots + (ab_ns m2 - ab_ns m)) ls2 cx hr he wh1 hS1 ?_ ⟨by have := hz.1; have := hm1.1; omega, by have := hz.2.1; have := hm1.2.1; omega, fun q => ?_⟩
      · refine ⟨hl2.1, hl2.2.1, fun q hq => hl2.2.2 q (List.mem_cons_of_mem _ ?_)⟩
        obtain ⟨z, hz, rfl⟩ := List.mem_map.mp hq
        obtain ⟨h1, h2⟩ := ab_del_mem hz
        refine List.mem_filter.mpr ⟨List.mem_map.mpr ⟨z, h1, rfl⟩, ?_⟩
        show (!(z.1 == i) && !(z.1 + 1 == i && (ab_v g z.2).category == 2)) = true
        rw [ab_v_cat]
        exact h2
      · have h0 : m.2.2.2 = 0 := by have := hm1.2.2; omega
        have h1 := hz.2.2 h0
        have h2 : ab_nc m2 = m2.1.length + m2.2.2.2 := rfl
        have h3 : ab_nc m = m.1.length + m.2.2.2 := rfl
        have h4 := hm1.1
        omega
    rcases hs0 with ⟨rfl, q, hq, hdq⟩ | ⟨rfl, hdq⟩
    · exact lv_astore_n cx.1 cx.2.1 hdq hq hl hi rfl (fun ls2 hl2 => go ls2 hl2)
    · exact lv_astore cx.1 cx.2.1 hdq hl hi rfl (fun ls2 hl2 => go ls2 hl2)
end RH
