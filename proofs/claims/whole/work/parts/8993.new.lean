/-! ===== constructors: shapes grow at the end ===== -/
section CN
variable {P L : List ab_Sh} {s t n : Nat} {I I' : Nat → Nat → Int32} {J J' : Nat → Nat → Int64}
theorem g_at (hs : P.length = s) (i : Nat) : (P ++ L)[s + i]? = L[i]? := by
  subst hs
  rw [List.getElem?_append_right (by omega)]
  congr 1; omega
theorem n_nw (hs : P.length = s) (sh : ab_Sh) (hn : s + L.length = n) (h : n < 1000) : ab_nw (P ++ L, I, J, 0) sh = some (n, (P ++ (L ++ [sh]), ab_i0 I n, ab_j0 J n, 0)) := by
  unfold ab_nw ab_mk
  have e : (P ++ L).length = n := by rw [List.length_append, hs]; exact hn
  dsimp only
  rw [e, if_pos ⟨rfl, h⟩, List.append_assoc]
theorem n_na {kd k : Nat} {v : Int32} (hs : P.length = s) (hn : s + L.length = n) (h : n < 1000) (hv : v = nI k) (hk : k ≤ 100000) : ab_na (P ++ L, I, J, 0) kd v = some (n, (P ++ (L ++ [(kd, k, [])]), ab_i0 I n, ab_j0 J n, 0)) := by
  subst hv
  unfold ab_na
  rw [nI_clamp (by omega), if_pos ⟨li_pos (by omega), hk⟩]
  exact n_nw hs _ hn h
theorem n_pI (hs : P.length = s) {i ci k r : Nat} {fs : List (Option (Option Nat))} (v : Int32) (hr : s + i = r) (h : L[i]? = some (0, ci, fs)) (hk : fs[k]? = some none) : ab_pI (P ++ L, I, J, 0) ci r k v = some (P ++ L, ab_u I r k v, J, 0) := op_pI v (by rw [← hr, g_at hs]; exact h) hk
theorem n_fI (hs : P.length = s) {i ci k r : Nat} {fs : List (Option (Option Nat))} (hr : s + i = r) (h : L[i]? = some (0, ci, fs)) (hk : fs[k]? = some none) : ab_fI (P ++ L, I, J, 0) ci r k = some (I r k) := op_fI (by rw [← hr, g_at hs]; exact h) hk
theorem n_rc (hs : P.length = s) {i ci r : Nat} {fs : List (Option (Option Nat))} (hr : s + i = r) (h : L[i]? = some (0, ci, fs)) : ab_rc (P ++ L, I, J, 0) ci r = some () := op_rc (by rw [← hr, g_at hs]; exact h)
theorem n_pR (hs : P.length = s) {i ci k r q : Nat} {fs : List (Option (Option Nat))} {o : Option Nat} (hr : s + i = r) (h : L[i]? = some (0, ci, fs)) (hk : fs[k]? = some (some o)) : ab_pR (P ++ L, I, J, 0) ci r k q = some (P ++ L.set i (0, ci, fs.set k (some (some q))), I, J, 0) := by
  have e : (P ++ L)[r]? = some (0, ci, fs) := by rw [← hr, g_at hs]; exact h
  unfold ab_pR
  dsimp only
  rw [e]
  show cond (Nat.beq ci ci) _ _ = _
  rw [Nat.beq_refl]
  show (match fs[k]? with | some (some _) => _ | _ => _) = _
  rw [hk]
  show some ((P ++ L).set r _, I, J, 0) = _
  subst hs; subst hr
  rw [List.set_append_right _ _ (by omega), Nat.add_sub_cancel_left]
/-- a constructor: the shapes it makes, what it leaves, what then holds -/
def Ini (ini : Nat → ab_Mm → Option (Unit × ab_Mm)) (sh : ab_Sh) (K : Nat → List ab_Sh) (sz : Nat) (Φ : Nat → (Nat → Nat → Int32) → (Nat → Nat → Int64) → Prop) : Prop := ∀ (P : List ab_Sh) (s : Nat) (I : Nat → Nat → Int32) (J : Nat → Nat → Int64), P.length = s → s + sz ≤ 900 → ∃ I' J', ini s (P ++ [sh], I, J, 0) = some ((), (P ++ K s, I', J', 0)) ∧ (∀ r, r < s → I' r = I r) ∧ (∀ r, r < s → J' r = J r) ∧ Φ s I' J'
theorem n_obj {ini : Nat → ab_Mm → Option (Unit × ab_Mm)} {sh : ab_Sh} {K : Nat → List ab_Sh} {sz : Nat} {Φ : Nat → (Nat → Nat → Int32) → (Nat → Nat → Int64) → Prop} (hI : Ini ini sh K sz Φ) (hs : P.length = s) {ci k : Nat} {fs : List (Option (Option Nat))} {o : Option Nat} (ht : s + (L.length + 1) = t) (hz : t + sz ≤ 900) (hk : fs[k]? = some (some o)) : ∃ I' J', (∀ G : ab_Mm → Option (Unit × ab_Mm), ((ab_nw (P ++ (0, ci, fs) :: L, I, J, 0) sh).bind fun q => (ini q.1 q.2).bind fun q2 => (ab_pR q2.2 ci s k q.1).bind G) = G (P ++ (0, ci, fs.set k (some (some t))) :: (L ++ K t), I', J', 0)) ∧ (∀ r, r < t → I' r = I r) ∧ (∀ r, r < t → J' r = J r) ∧ Φ t I' J' := by
  have e1 := n_nw (I := I) (J := J) (L := (0, ci, fs) :: L) hs sh ht (by omega)
  obtain ⟨I', J', a1, a2, a3, a4⟩ := hI (P ++ (0, ci, fs) :: L) t (ab_i0 I t) (ab_j0 J t) (by rw [List.length_append, hs]; exact ht) hz
  refine ⟨I', J', fun G => ?_, fun r hr => ?_, fun r hr => ?_, a4⟩
  · rw [e1, ob_s]
    dsimp only
    rw [← List.append_assoc, a1, ob_s]
    dsimp only
    rw [List.append_assoc, n_pR (i := 0) (r := s) (L := (0, ci, fs) :: L ++ K t) hs rfl rfl hk, ob_s]
    rfl
  · rw [a2 r hr, ab_i0_off _ (by omega)]
  · rw [a3 r hr, ab_j0_off _ (by omega)]
theorem n_arr (hs : P.length = s) {ci k kd m : Nat} {v : Int32} {fs : List (Option (Option Nat))} {o : Option Nat} (ht : s + (L.length + 1) = t) (hz : t < 1000) (hv : v = nI m) (hm : m ≤ 100000) (hk : fs[k]? = some (some o)) (G : ab_Mm → Option (Unit × ab_Mm)) : ((ab_na (P ++ (0, ci, fs) :: L, I, J, 0) kd v).bind fun q => (ab_pR q.2 ci s k q.1).bind G) = G (P ++ (0, ci, fs.set k (some (some t))) :: (L ++ [(kd, m, [])]), ab_i0 I t, ab_j0 J t, 0) := by
  rw [n_na (L := (0, ci, fs) :: L) hs ht hz hv hm, ob_s]
  dsimp only
  rw [n_pR (i := 0) (r := s) (L := (0, ci, fs) :: L ++ [(kd, m, [])]) hs rfl rfl hk, ob_s]
  rfl
theorem n_own (hs : P.length = s) {ci k : Nat} {fs : List (Option (Option Nat))} (v : Int32) (hk : fs[k]? = some none) : ab_pI (P ++ (0, ci, fs) :: L, I, J, 0) ci s k v = some (P ++ (0, ci, fs) :: L, ab_u I s k v, J, 0) := n_pI (i := 0) (L := (0, ci, fs) :: L) hs v rfl rfl hk
/-- a table -/
def TBL (R C t : Nat) : List ab_Sh := [(0, 10, [none, none, some (some (t + 1)), none]), (1, R * C, [])]
def tsh : ab_Sh := (0, 10, [none, none, some none, none])
def FT (R C t : Nat) (I : Nat → Nat → Int32) (_ : Nat → Nat → Int64) : Prop := tI I t R C ∧ I t 3 = 0 ∧ ∀ k, I (t + 1) k = 0
theorem Ini_tab {R C : Nat} {a b : Int32} (ha : a = nI R) (hb : b = nI C) (hR : 0 < R) (hC : 0 < C) (hz : R < 1000 ∧ C < 100 ∧ R * C ≤ 100000) : Ini (fun t m => dd_X10_init t a b m) (0, 10, [none, none, some none, none]) (TBL R C) 2 (FT R C) := by
  intro P s I J hs h9
  subst ha; subst hb
  have p : ∀ (Ia : Nat → Nat → Int32) (k : Nat) (v : Int32), ([none, none, some none, none] : List (Option (Option Nat)))[k]? = some none → ab_pI (P ++ [(0, 10, [none, none, some none, none])], Ia, J, 0) 10 s k v = some (P ++ [(0, 10, [none, none, some none, none])], ab_u Ia s k v, J, 0) := fun Ia k v h => n_own (L := []) hs v h
  have f : ∀ (Ia : Nat → Nat → Int32) (k : Nat), ([none, none, some none, none] : List (Option (Option Nat)))[k]? = some none → ab_fI (P ++ [(0, 10, [none, none, some none, none])], Ia, J, 0) 10 s k = some (Ia s k) := fun Ia k h => n_fI (i := 0) hs rfl rfl h
  have eR : (if (0 : Int32) < (if (1000 : Int32) < nI R then (1000 : Int32) else nI R) then (if (1000 : Int32) < nI R then (1000 : Int32) else nI R) else 0) = nI R := by
    rw [if_neg (show ¬ (1000 : Int32) < nI R by rw [li_n 1000, li_lt (by omega) (by omega)]; omega)]
    exact if_pos (by rw [li_0, li_lt (by omega) (by omega)]; exact hR)
  have eC : (if (0 : Int32) < (if (1000 : Int32) < nI C then (1000 : Int32) else nI C) then (if (1000 : Int32) < nI C then (1000 : Int32) else nI C) else 0) = nI C := by
    rw [if_neg (show ¬ (1000 : Int32) < nI C by rw [li_n 1000, li_lt (by omega) (by omega)]; omega)]
    exact if_pos (by rw [li_0, li_lt (by omega) (by omega)]; exact hC)
  have z0 : ab_u (ab_u (ab_u I s 3 0) s 0 (nI R)) s 1 (nI C) s 0 = nI R := by rw [u_k (by omega), u_e]
  have z1 : ab_u (ab_u (ab_u I s 3 0) s 0 (nI R)) s 1 (nI C) s 1 = nI C := u_e
  have z3 : ab_u (ab_u (ab_u I s 3 0) s 0 (nI R)) s 1 (nI C) s 3 = 0 := by rw [u_k (by omega), u_k (by omega), u_e]
  have zr : ∀ r, r < s → ab_u (ab_u (ab_u I s 3 0) s 0 (nI R)) s 1 (nI C) r = I r := fun r hr => by rw [u_r (by omega), u_r (by omega), u_r (by omega)]
  have run : dd_X10_init s (nI R) (nI C) (P ++ [(0, 10, [none, none, some none, none])], I, J, 0) = (ab_na (P ++ [(0, 10, [none, none, some none, none])], ab_u (ab_u (ab_u I s 3 0) s 0 (nI R)) s 1 (nI C), J, 0) 1 (nI R * nI C)).bind fun q => (ab_pR q.2 10 s 2 q.1).bind fun m7 => some ((), m7) := by
    unfold dd_X10_init
    rw [p _ 3 _ rfl, ob_s, eR, p _ 0 _ rfl, ob_s, eC, p _ 1 _ rfl, ob_s, f _ 0 rfl, ob_s, f _ 1 rfl, ob_s, z0, z1]
  generalize ab_u (ab_u (ab_u I s 3 0) s 0 (nI R)) s 1 (nI C) = I1 at z0 z1 z3 zr run
  refine ⟨ab_i0 I1 (s + 1), ab_j0 J (s + 1), ?_, fun r hr => ?_, fun r hr => ?_, ⟨?_, ?_⟩, ?_, fun k => ?_⟩
  · show dd_X10_init s (nI R) (nI C) (P ++ [(0, 10, [none, none, some none, none])], I, J, 0) = _
    rw [run, n_arr (L := []) (t := s + 1) hs rfl (by omega) (li_mul R C) hz.2.2 rfl]
    rfl
  · rw [ab_i0_off _ (by omega)]; exact zr r hr
  · rw [ab_j0_off _ (by omega)]
  · rw [ab_i0_off _ (by omega)]; exact z0
  · rw [ab_i0_off _ (by omega)]; exact z1
  · rw [ab_i0_off _ (by omega)]; exact z3
  · rw [ab_i0_row]
/-- a situation -/
def SIT (s : Nat) : List ab_Sh := [(0, 8, [none, none, some (some (s + 1)), some (some (s + 3)), some (some (s + 5)), some (some (s + 7)), some (some (s + 9))]), (0, 10, [none, none, some (some (s + 2)), none]), (1, 72, []), (0, 10, [none, none, some (some (s + 4)), none]), (1, 30, []), (0, 10, [none, none, some (some (s + 6)), none]), (1, 6, []), (0, 10, [none, none, some (some (s + 8)), none]), (1, 16, []), (4, 6, [])]
def F8 (s : Nat) (I : Nat → Nat → Int32) (J : Nat → Nat → Int64) : Prop := siI I s ∧ I s 0 = 0 ∧ I s 1 = 0 ∧ I (s + 3) 3 = 0 ∧ (∀ k, I (s + 8) k = 0) ∧ ∀ k, J (s + 9) k = 0
theorem Ini_8 : Ini dd_X8_init (0, 8, [none, none, some none, some none, some none, some none, some none]) SIT 10 F8 := by
  intro P s I J hs h9
  have p0 : ab_pI (P ++ [(0, 8, [none, none, some none, some none, some none, some none, some none])], I, J, 0) 8 s 0 0 = some (P ++ [(0, 8, [none, none, some none, some none, some none, some none, some none])], ab_u I s 0 0, J, 0) := n_own (L := []) hs 0 rfl
  have p1 : ab_pI (P ++ [(0, 8, [none, none, some none, some none, some none, some none, some none])], ab_u I s 0 0, J, 0) 8 s 1 0 = some (P ++ [(0, 8, [none, none, some none, some none, some none, some none, some none])], ab_u (ab_u I s 0 0) s 1 0, J, 0) := n_own (L := []) hs 0 rfl
  obtain ⟨I1, J1, a1, a2, a3, a4⟩ := n_obj (I := ab_u (ab_u I s 0 0) s 1 0) (J := J) (L := []) (t := s + 1) (ci := 8) (k := 2) (fs := [none, none, some none, some none, some none, some none, some none]) (Ini_tab (li_n 12) (li_n 6) (by omega) (by omega) (by omega)) hs rfl (by omega) rfl
  obtain ⟨I2, J2, b1, b2, b3, b4⟩ := n_obj (I := I1) (J := J1) (L := TBL 12 6 (s + 1)) (t := s + 3) (ci := 8) (k := 3) (fs := [none, none, some (some (s + 1)), some none, some none, some none, some none]) (Ini_tab (li_n 10) (li_n 3) (by omega) (by omega) (by omega)) hs rfl (by omega) rfl
  obtain ⟨I3, J3, c1, c2, c3, c4⟩ := n_obj (I := I2) (J := J2) (L := TBL 12 6 (s + 1) ++ TBL 10 3 (s + 3)) (t := s + 5) (ci := 8) (k := 4) (fs := [none, none, some (some (s + 1)), some (some (s + 3)), some none, some none, some none]) (Ini_tab (li_n 6) (li_n 1) (by omega) (by omega) (by omega)) hs rfl (by omega) rfl
  obtain ⟨I4, J4, d1, d2, d3, d4⟩ := n_obj (I := I3) (J := J3) (L := TBL 12 6 (s + 1) ++ TBL 10 3 (s + 3) ++ TBL 6 1 (s + 5)) (t := s + 7) (ci := 8) (k := 5) (fs := [none, none, some (some (s + 1)), some (some (s + 3)), some (some (s + 5)), some none, some none]) (Ini_tab (li_n 8) (li_n 2) (by omega) (by omega) (by omega)) hs rfl (by omega) rfl
  have e1 := fun G => n_arr (I := I4) (J := J4) (L := TBL 12 6 (s + 1) ++ TBL 10 3 (s + 3) ++ TBL 6 1 (s + 5) ++ TBL 8 2 (s + 7)) (t := s + 9) (ci := 8) (k := 6) (kd := 4) (fs := [none, none, some (some (s + 1)), some (some (s + 3)), some (some (s + 5)), some (some (s + 7)), some none]) hs rfl (by omega) (li_n 6) (by omega) rfl G
  refine ⟨ab_i0 I4 (s + 9), ab_j0 J4 (s + 9), ?_, fun r hr => ?_, fun r hr => ?_, ⟨⟨?_, ?_⟩, ⟨?_, ?_⟩, ⟨?_, ?_⟩, ?_, ?_⟩, ?_, ?_, ?_, fun k => ?_, fun k => ?_⟩
  · unfold dd_X8_init
    rw [p0, ob_s, p1, ob_s]
    exact (a1 _).trans ((b1 _).trans ((c1 _).trans ((d1 _).trans (e1 _))))
  · rw [ab_i0_off _ (by omega), d2 r (by omega), c2 r (by omega), b2 r (by omega), a2 r (by omega), u_r (by omega), u_r (by omega)]
  · rw [ab_j0_off _ (by omega), d3 r (by omega), c3 r (by omega), b3 r (by omega), a3 r (by omega)]
  · rw [ab_i0_off _ (by omega), d2 _ (by omega), c2 _ (by omega), b2 _ (by omega)]; exact a4.1.1
  · rw [ab_i0_off _ (by omega), d2 _ (by omega), c2 _ (by omega), b2 _ (by omega)]; exact a4.1.2
  · rw [ab_i0_off _ (by omega), d2 _ (by omega), c2 _ (by omega)]; exact b4.1.1
  · rw [ab_i0_off _ (by omega), d2 _ (by omega), c2 _ (by omega)]; exact b4.1.2
  · rw [ab_i0_off _ (by omega), d2 _ (by omega)]; exact c4.1.1
  · rw [ab_i0_off _ (by omega), d2 _ (by omega)]; exact c4.1.2
  · rw [ab_i0_off _ (by omega)]; exact d4.1.1
  · rw [ab_i0_off _ (by omega)]; exact d4.1.2
  · rw [ab_i0_off _ (by omega), d2 _ (by omega), c2 _ (by omega), b2 _ (by omega), a2 _ (by omega), u_k (by omega), u_e]
  · rw [ab_i0_off _ (by omega), d2 _ (by omega), c2 _ (by omega), b2 _ (by omega), a2 _ (by omega), u_e]
  · rw [ab_i0_off _ (by omega), d2 _ (by omega), c2 _ (by omega)]; exact b4.2.1
  · rw [ab_i0_off _ (by omega)]; exact d4.2.2 k
  · rw [ab_j0_row]
end CN
