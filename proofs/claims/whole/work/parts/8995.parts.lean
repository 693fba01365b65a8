/-! ===== constructors: reader, history, the helpers ===== -/
section CP
variable {S P L Q : List ab_Sh} {s t n c k : Nat} {I I' : Nat → Nat → Int32} {J J' : Nat → Nat → Int64} {x : Nat}
def RDS (s : Nat) : List ab_Sh := (0, 7, [some (some (s + 1)), none, some (some (s + 2)), some (some (s + 3)), none, none, none, none, none, none, none]) :: (2, 800, []) :: (2, 800, []) :: CLD (s + 3)
theorem Ini_7 : Ini dd_X7_init (0, 7, [some none, none, some none, some none, none, none, none, none, none, none, none]) RDS 17 (fun s I _ => I s 1 = 0 ∧ I s 4 = -1 ∧ F1 (s + 3) I) := by
  intro P s I J hs h9
  have a1 := fun G => n_arr (I := I) (J := J) (L := []) (t := s + 1) (ci := 7) (k := 0) (kd := 2) (fs := [some none, none, some none, some none, none, none, none, none, none, none, none]) hs rfl (by omega) (li_n 800) (by omega) rfl G
  have b1 : ab_pI (P ++ (0, 7, [some (some (s + 1)), none, some none, some none, none, none, none, none, none, none, none]) :: [(2, 800, [])], ab_i0 I (s + 1), ab_j0 J (s + 1), 0) 7 s 1 0 = some (P ++ (0, 7, [some (some (s + 1)), none, some none, some none, none, none, none, none, none, none, none]) :: [(2, 800, [])], ab_u (ab_i0 I (s + 1)) s 1 0, ab_j0 J (s + 1), 0) := n_own hs 0 rfl
  have d1 := fun G => n_arr (I := ab_u (ab_i0 I (s + 1)) s 1 0) (J := ab_j0 J (s + 1)) (L := [(2, 800, [])]) (t := s + 2) (ci := 7) (k := 2) (kd := 2) (fs := [some (some (s + 1)), none, some none, some none, none, none, none, none, none, none, none]) hs rfl (by omega) (li_n 800) (by omega) rfl G
  obtain ⟨I1, J1, c1, c2, c3, c4⟩ := n_obj (I := ab_i0 (ab_u (ab_i0 I (s + 1)) s 1 0) (s + 2)) (J := ab_j0 (ab_j0 J (s + 1)) (s + 2)) (L := [(2, 800, []), (2, 800, [])]) (t := s + 3) (ci := 7) (k := 3) (fs := [some (some (s + 1)), none, some (some (s + 2)), some none, none, none, none, none, none, none, none]) Ini_1 hs rfl (by omega) rfl
  have p : ∀ (Ia : Nat → Nat → Int32) (k : Nat) (v : Int32), ([some (some (s + 1)), none, some (some (s + 2)), some (some (s + 3)), none, none, none, none, none, none, none] : List (Option (Option Nat)))[k]? = some none → ab_pI (P ++ RDS s, Ia, J1, 0) 7 s k v = some (P ++ RDS s, ab_u Ia s k v, J1, 0) := fun Ia k v h => n_own (L := (2, 800, []) :: (2, 800, []) :: CLD (s + 3)) hs v h
  have off : ∀ r, r ≠ s → ab_u (ab_u (ab_u (ab_u (ab_u (ab_u (ab_u I1 s 4 (-1)) s 5 0) s 6 0) s 7 0) s 8 0) s 9 0) s 10 0 r = I1 r := fun r hr => by rw [u_r hr, u_r hr, u_r hr, u_r hr, u_r hr, u_r hr, u_r hr]
  refine ⟨ab_u (ab_u (ab_u (ab_u (ab_u (ab_u (ab_u I1 s 4 (-1)) s 5 0) s 6 0) s 7 0) s 8 0) s 9 0) s 10 0, J1, ?_, fun r hr => ?_, fun r hr => ?_, ?_, ?_, ?_⟩
  · unfold dd_X7_init
    refine (a1 _).trans ?_
    show (ab_pI (P ++ (0, 7, [some (some (s + 1)), none, some none, some none, none, none, none, none, none, none, none]) :: [(2, 800, [])], ab_i0 I (s + 1), ab_j0 J (s + 1), 0) 7 s 1 0).bind _ = _
    rw [b1, ob_s]
    refine (d1 _).trans ((c1 _).trans ?_)
    show (ab_pI (P ++ RDS s, I1, J1, 0) 7 s 4 (-1)).bind _ = _
    rw [p _ 4 _ rfl, ob_s, p _ 5 _ rfl, ob_s, p _ 6 _ rfl, ob_s, p _ 7 _ rfl, ob_s, p _ 8 _ rfl, ob_s, p _ 9 _ rfl, ob_s, p _ 10 _ rfl, ob_s]
  · rw [off r (by omega), c2 r (by omega), ab_i0_off _ (by omega), u_r (by omega), ab_i0_off _ (by omega)]
  · rw [c3 r (by omega), ab_j0_off _ (by omega), ab_j0_off _ (by omega)]
  · rw [u_k (by omega), u_k (by omega), u_k (by omega), u_k (by omega), u_k (by omega), u_k (by omega), u_k (by omega), c2 s (by omega), ab_i0_off _ (by omega), u_e]
  · rw [u_k (by omega), u_k (by omega), u_k (by omega), u_k (by omega), u_k (by omega), u_k (by omega), u_e]
  · have q := c4
    unfold F1 clI tI at q ⊢
    rw [off (s + 3 + 1) (by omega), off (s + 3 + 3) (by omega), off (s + 3 + 5) (by omega), off (s + 3 + 7) (by omega), off (s + 3 + 9) (by omega), off (s + 3 + 2) (by omega), off (s + 3 + 10) (by omega), off (s + 3 + 11) (by omega), off (s + 3 + 12) (by omega)]
    exact q
/-- the bills -/
def BLS (s : Nat) : List ab_Sh := [(0, 0, [some (some (s + 1)), some (some (s + 3))]), (0, 10, [none, none, some (some (s + 2)), none]), (1, 6, []), (0, 10, [none, none, some (some (s + 4)), none]), (1, 36, [])]
theorem Ini_0 : Ini dd_X0_init (0, 0, [some none, some none]) BLS 5 (fun s I _ => tI I (s + 1) 6 1 ∧ tI I (s + 3) 6 6) := by
  intro P s I J hs h9
  obtain ⟨I1, J1, a1, a2, a3, a4⟩ := n_obj (I := I) (J := J) (L := []) (t := s + 1) (ci := 0) (k := 0) (fs := [some none, some none]) (Ini_tab (li_n 6) (li_n 1) (by omega) (by omega) (by omega)) hs rfl (by omega) rfl
  obtain ⟨I2, J2, b1, b2, b3, b4⟩ := n_obj (I := I1) (J := J1) (L := TBL 6 1 (s + 1)) (t := s + 3) (ci := 0) (k := 1) (fs := [some (some (s + 1)), some none]) (Ini_tab (li_n 6) (li_n 6) (by omega) (by omega) (by omega)) hs rfl (by omega) rfl
  refine ⟨I2, J2, ?_, fun r hr => ?_, fun r hr => ?_, ⟨?_, ?_⟩, b4.1⟩
  · unfold dd_X0_init
    exact (a1 _).trans (b1 _)
  · rw [b2 r (by omega), a2 r (by omega)]
  · rw [b3 r (by omega), a3 r (by omega)]
  · rw [b2 _ (by omega)]; exact a4.1.1
  · rw [b2 _ (by omega)]; exact a4.1.2
/-- an odometer -/
def ODO (s : Nat) : List ab_Sh := [(0, 5, [some (some (s + 1)), some (some (s + 2)), none]), (1, 6, []), (1, 6, [])]
theorem Ini_5 : Ini dd_X5_init (0, 5, [some none, some none, none]) ODO 3 (fun _ _ _ => True) := by
  intro P s I J hs h9
  have a1 := fun G => n_arr (I := I) (J := J) (L := []) (t := s + 1) (ci := 5) (k := 0) (kd := 1) (fs := [some none, some none, none]) hs rfl (by omega) (li_n 6) (by omega) rfl G
  have b1 := fun G => n_arr (I := ab_i0 I (s + 1)) (J := ab_j0 J (s + 1)) (L := [(1, 6, [])]) (t := s + 2) (ci := 5) (k := 1) (kd := 1) (fs := [some (some (s + 1)), some none, none]) hs rfl (by omega) (li_n 6) (by omega) rfl G
  have c1 : ab_pI (P ++ ODO s, ab_i0 (ab_i0 I (s + 1)) (s + 2), ab_j0 (ab_j0 J (s + 1)) (s + 2), 0) 5 s 2 0 = some (P ++ ODO s, ab_u (ab_i0 (ab_i0 I (s + 1)) (s + 2)) s 2 0, ab_j0 (ab_j0 J (s + 1)) (s + 2), 0) := n_own (L := [(1, 6, []), (1, 6, [])]) hs 0 rfl
  refine ⟨ab_u (ab_i0 (ab_i0 I (s + 1)) (s + 2)) s 2 0, ab_j0 (ab_j0 J (s + 1)) (s + 2), ?_, fun r hr => ?_, fun r hr => ?_, trivial⟩
  · unfold dd_X5_init
    refine (a1 _).trans ((b1 _).trans ?_)
    show (ab_pI (P ++ ODO s, ab_i0 (ab_i0 I (s + 1)) (s + 2), ab_j0 (ab_j0 J (s + 1)) (s + 2), 0) 5 s 2 0).bind _ = _
    rw [c1, ob_s]
  · rw [u_r (by omega), ab_i0_off _ (by omega), ab_i0_off _ (by omega)]
  · rw [ab_j0_off _ (by omega), ab_j0_off _ (by omega)]
/-- the packing -/
def PKS (s : Nat) : List ab_Sh := (0, 6, [some (some (s + 1)), some (some (s + 2)), some (some (s + 3)), some (some (s + 5)), some (some (s + 6)), some (some (s + 9))]) :: (1, 729, []) :: (1, 729, []) :: (0, 10, [none, none, some (some (s + 4)), none]) :: (1, 1458, []) :: (1, 6, []) :: (ODO (s + 6) ++ ODO (s + 9))
theorem Ini_6 : Ini dd_X6_init (0, 6, [some none, some none, some none, some none, some none, some none]) PKS 12 (fun s I _ => tI I (s + 3) 729 2) := by
  intro P s I J hs h9
  have a1 := fun G => n_arr (I := I) (J := J) (L := []) (t := s + 1) (ci := 6) (k := 0) (kd := 1) (fs := [some none, some none, some none, some none, some none, some none]) hs rfl (by omega) (li_n 729) (by omega) rfl G
  have b1 := fun G => n_arr (I := ab_i0 I (s + 1)) (J := ab_j0 J (s + 1)) (L := [(1, 729, [])]) (t := s + 2) (ci := 6) (k := 1) (kd := 1) (fs := [some (some (s + 1)), some none, some none, some none, some none, some none]) hs rfl (by omega) (li_n 729) (by omega) rfl G
  obtain ⟨I1, J1, c1, c2, c3, c4⟩ := n_obj (I := ab_i0 (ab_i0 I (s + 1)) (s + 2)) (J := ab_j0 (ab_j0 J (s + 1)) (s + 2)) (L := [(1, 729, []), (1, 729, [])]) (t := s + 3) (ci := 6) (k := 2) (fs := [some (some (s + 1)), some (some (s + 2)), some none, some none, some none, some none]) (Ini_tab (li_n 729) (li_n 2) (by omega) (by omega) (by omega)) hs rfl (by omega) rfl
  have d1 := fun G => n_arr (I := I1) (J := J1) (L := [(1, 729, []), (1, 729, [])] ++ TBL 729 2 (s + 3)) (t := s + 5) (ci := 6) (k := 3) (kd := 1) (fs := [some (some (s + 1)), some (some (s + 2)), some (some (s + 3)), some none, some none, some none]) hs rfl (by omega) (li_n 6) (by omega) rfl G
  obtain ⟨I2, J2, e1, e2, e3, _⟩ := n_obj (I := ab_i0 I1 (s + 5)) (J := ab_j0 J1 (s + 5)) (L := [(1, 729, []), (1, 729, [])] ++ TBL 729 2 (s + 3) ++ [(1, 6, [])]) (t := s + 6) (ci := 6) (k := 4) (fs := [some (some (s + 1)), some (some (s + 2)), some (some (s + 3)), some (some (s + 5)), some none, some none]) Ini_5 hs rfl (by omega) rfl
  obtain ⟨I3, J3, f1, f2, f3, _⟩ := n_obj (I := I2) (J := J2) (L := [(1, 729, []), (1, 729, [])] ++ TBL 729 2 (s + 3) ++ [(1, 6, [])] ++ ODO (s + 6)) (t := s + 9) (ci := 6) (k := 5) (fs := [some (some (s + 1)), some (some (s + 2)), some (some (s + 3)), some (some (s + 5)), some (some (s + 6)), some none]) Ini_5 hs rfl (by omega) rfl
  refine ⟨I3, J3, ?_, fun r hr => ?_, fun r hr => ?_, ?_, ?_⟩
  · unfold dd_X6_init
    exact (a1 _).trans ((b1 _).trans ((c1 _).trans ((d1 _).trans ((e1 _).trans (f1 _)))))
  · rw [f2 r (by omega), e2 r (by omega), ab_i0_off _ (by omega), c2 r (by omega), ab_i0_off _ (by omega), ab_i0_off _ (by omega)]
  · rw [f3 r (by omega), e3 r (by omega), ab_j0_off _ (by omega), c3 r (by omega), ab_j0_off _ (by omega), ab_j0_off _ (by omega)]
  · rw [f2 _ (by omega), e2 _ (by omega), ab_i0_off _ (by omega)]; exact c4.1.1
  · rw [f2 _ (by omega), e2 _ (by omega), ab_i0_off _ (by omega)]; exact c4.1.2
/-- the eviction -/
def EVS (s : Nat) : List ab_Sh := [(0, 3, [some (some (s + 1)), none, none]), (0, 10, [none, none, some (some (s + 2)), none]), (1, 48, [])]
theorem Ini_3 : Ini dd_X3_init (0, 3, [some none, none, none]) EVS 3 (fun s I _ => tI I (s + 1) 12 4) := by
  intro P s I J hs h9
  obtain ⟨I1, J1, a1, a2, a3, a4⟩ := n_obj (I := I) (J := J) (L := []) (t := s + 1) (ci := 3) (k := 0) (fs := [some none, none, none]) (Ini_tab (li_n 12) (li_n 4) (by omega) (by omega) (by omega)) hs rfl (by omega) rfl
  have p : ∀ (Ia : Nat → Nat → Int32) (k : Nat) (v : Int32), ([some (some (s + 1)), none, none] : List (Option (Option Nat)))[k]? = some none → ab_pI (P ++ EVS s, Ia, J1, 0) 3 s k v = some (P ++ EVS s, ab_u Ia s k v, J1, 0) := fun Ia k v h => n_own (L := [(0, 10, [none, none, some (some (s + 2)), none]), (1, 48, [])]) hs v h
  refine ⟨ab_u (ab_u I1 s 1 (-1)) s 2 0, J1, ?_, fun r hr => ?_, fun r hr => ?_, ?_⟩
  · unfold dd_X3_init
    refine (a1 _).trans ?_
    show (ab_pI (P ++ EVS s, I1, J1, 0) 3 s 1 (-1)).bind _ = _
    rw [p _ 1 _ rfl, ob_s, p _ 2 _ rfl, ob_s]
  · rw [u_r (by omega), u_r (by omega), a2 r (by omega)]
  · rw [a3 r (by omega)]
  · have q := a4.1
    show tI (ab_u (ab_u I1 s 1 (-1)) s 2 0) (s + 1) 12 4
    unfold tI at q ⊢
    rw [u_r (show s + 1 ≠ s by omega), u_r (show s + 1 ≠ s by omega)]
    exact q
/-- the drainage -/
def DRS (s : Nat) : List ab_Sh := [(0, 2, [some (some (s + 1)), some (some (s + 2)), none, some (some (s + 3))]), (1, 5, []), (1, 5, []), (0, 10, [none, none, some (some (s + 4)), none]), (1, 16, [])]
theorem Ini_2 : Ini dd_X2_init (0, 2, [some none, some none, none, some none]) DRS 5 (fun s I _ => tI I (s + 3) 8 2) := by
  intro P s I J hs h9
  have a1 := fun G => n_arr (I := I) (J := J) (L := []) (t := s + 1) (ci := 2) (k := 0) (kd := 1) (fs := [some none, some none, none, some none]) hs rfl (by omega) (li_n 5) (by omega) rfl G
  have b1 := fun G => n_arr (I := ab_i0 I (s + 1)) (J := ab_j0 J (s + 1)) (L := [(1, 5, [])]) (t := s + 2) (ci := 2) (k := 1) (kd := 1) (fs := [some (some (s + 1)), some none, none, some none]) hs rfl (by omega) (li_n 5) (by omega) rfl G
  have c1 : ab_pI (P ++ (0, 2, [some (some (s + 1)), some (some (s + 2)), none, some none]) :: [(1, 5, []), (1, 5, [])], ab_i0 (ab_i0 I (s + 1)) (s + 2), ab_j0 (ab_j0 J (s + 1)) (s + 2), 0) 2 s 2 0 = some (P ++ (0, 2, [some (some (s + 1)), some (some (s + 2)), none, some none]) :: [(1, 5, []), (1, 5, [])], ab_u (ab_i0 (ab_i0 I (s + 1)) (s + 2)) s 2 0, ab_j0 (ab_j0 J (s + 1)) (s + 2), 0) := n_own (L := [(1, 5, []), (1, 5, [])]) hs 0 rfl
  obtain ⟨I1, J1, d1, d2, d3, d4⟩ := n_obj (I := ab_u (ab_i0 (ab_i0 I (s + 1)) (s + 2)) s 2 0) (J := ab_j0 (ab_j0 J (s + 1)) (s + 2)) (L := [(1, 5, []), (1, 5, [])]) (t := s + 3) (ci := 2) (k := 3) (fs := [some (some (s + 1)), some (some (s + 2)), none, some none]) (Ini_tab (li_n 8) (li_n 2) (by omega) (by omega) (by omega)) hs rfl (by omega) rfl
  refine ⟨I1, J1, ?_, fun r hr => ?_, fun r hr => ?_, d4.1⟩
  · unfold dd_X2_init
    refine (a1 _).trans ((b1 _).trans ?_)
    show (ab_pI (P ++ (0, 2, [some (some (s + 1)), some (some (s + 2)), none, some none]) :: [(1, 5, []), (1, 5, [])], ab_i0 (ab_i0 I (s + 1)) (s + 2), ab_j0 (ab_j0 J (s + 1)) (s + 2), 0) 2 s 2 0).bind _ = _
    rw [c1, ob_s]
    exact d1 _
  · rw [d2 r (by omega), u_r (by omega), ab_i0_off _ (by omega), ab_i0_off _ (by omega)]
  · rw [d3 r (by omega), ab_j0_off _ (by omega), ab_j0_off _ (by omega)]
end CP
