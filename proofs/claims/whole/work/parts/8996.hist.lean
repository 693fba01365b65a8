/-! ===== constructors: the history ===== -/
section CH2
variable {S P L Q : List ab_Sh} {s t n c k : Nat} {I I' : Nat → Nat → Int32} {J J' : Nat → Nat → Int64} {x : Nat}
theorem n_nq {m : Nat} {v : Int32} (hs : P.length = s) {ci k : Nat} {fs : List (Option (Option Nat))} {o : Option Nat} (ht : s + (L.length + 1) = t) (hz : t < 1000) (hv : v = nI m) (hm : m ≤ 100000) (hk : fs[k]? = some (some o)) (G : ab_Mm → Option (Unit × ab_Mm)) : ((ab_nq (P ++ (0, ci, fs) :: L, I, J, 0) v).bind fun q => (ab_pR q.2 ci s k q.1).bind G) = G (P ++ (0, ci, fs.set k (some (some t))) :: (L ++ [(5, m, List.replicate m (some none))]), ab_i0 I t, ab_j0 J t, 0) := by
  subst hv
  have e : ab_nq (P ++ (0, ci, fs) :: L, I, J, 0) (nI m) = some (t, (P ++ ((0, ci, fs) :: L ++ [(5, m, List.replicate m (some none))]), ab_i0 I t, ab_j0 J t, 0)) := by
    unfold ab_nq
    rw [nI_clamp (by omega), if_pos ⟨li_pos (by omega), hm⟩]
    exact n_nw (L := (0, ci, fs) :: L) hs _ ht hz
  rw [e, ob_s]
  dsimp only
  rw [n_pR (i := 0) (r := s) (L := (0, ci, fs) :: L ++ [(5, m, List.replicate m (some none))]) hs rfl rfl hk, ob_s]
  rfl
theorem n_stR (hs : P.length = s) {i r m k q c2 : Nat} {v : Int32} {fs f2 : List (Option (Option Nat))} (hr : s + i = r) (h : L[i]? = some (5, m, fs)) (hq : (P ++ L)[q]? = some (0, 8, f2)) (hv : v = nI k) (hk : k < m) (hm : m < 1000) (hl : fs.length = m) : ab_stR (P ++ L, I, J, 0) r v q = some (P ++ L.set i (5, m, fs.set k (some (some q))), I, J, 0) := by
  have e : (P ++ L)[r]? = some (5, m, fs) := by rw [← hr, g_at hs]; exact h
  have b := op_in hv hk (by omega)
  have ek : v.toNatClampNeg = k := op_cl hv hk (by omega)
  unfold ab_stR
  dsimp only
  rw [e, hq]
  dsimp only
  rw [if_pos ⟨rfl, rfl, rfl, b, by rw [ek, hl]; exact hk⟩, ek]
  subst hs; subst hr
  rw [List.set_append_right _ _ (by omega), Nat.add_sub_cancel_left]
/-- the history's shapes while it is being made -/
def HO (s : Nat) : ab_Sh := (0, 4, [some (some (s + 1)), some (some (s + 2)), none, none, none])
def SITS (s : Nat) : Nat → List ab_Sh
  | 0 => []
  | k + 1 => SITS s k ++ SIT (s + 3 + 10 * k)
def HFA (s : Nat) : Nat → List (Option (Option Nat))
  | 0 => List.replicate 10 (some none)
  | k + 1 => (HFA s k).set k (some (some (s + 3 + 10 * k)))
def HFB (s : Nat) : Nat → List (Option (Option Nat))
  | 0 => List.replicate 2 (some none)
  | k + 1 => (HFB s k).set k (some (some (s + 103 + 10 * k)))
theorem SITS_len (s k : Nat) : (SITS s k).length = 10 * k := by
  induction k with
  | zero => rfl
  | succ k ih => rw [SITS, List.length_append, ih]; show 10 * k + 10 = _; omega
theorem HFA_len (s k : Nat) : (HFA s k).length = 10 := by
  induction k with
  | zero => rfl
  | succ k ih => rw [HFA, List.length_set]; exact ih
theorem HFB_len (s k : Nat) : (HFB s k).length = 2 := by
  induction k with
  | zero => rfl
  | succ k ih => rw [HFB, List.length_set]; exact ih
/-- a new situation behind all -/
theorem h_new (hs : P.length = s) {A : List ab_Sh} (hA : s + A.length = t) (hz : t + 10 ≤ 900) : ∃ I' J', (∀ G : Nat → ab_Mm → Option (Unit × ab_Mm), ((ab_nw (P ++ A, I, J, 0) (0, 8, [none, none, some none, some none, some none, some none, some none])).bind fun q4 => (dd_X8_init q4.1 q4.2).bind fun q5 => G q4.1 q5.2) = G t (P ++ (A ++ SIT t), I', J', 0)) ∧ (∀ r, r < t → I' r = I r) ∧ (∀ r, r < t → J' r = J r) ∧ F8 t I' J' := by
  obtain ⟨I', J', a1, a2, a3, a4⟩ := Ini_8 (P ++ A) t (ab_i0 I t) (ab_j0 J t) (by rw [List.length_append, hs]; exact hA) hz
  refine ⟨I', J', fun G => ?_, fun r hr => ?_, fun r hr => ?_, a4⟩
  · rw [n_nw hs _ hA (by omega), ob_s]
    dsimp only
    rw [← List.append_assoc, a1, ob_s, List.append_assoc]
  · rw [a2 r hr, ab_i0_off _ (by omega)]
  · rw [a3 r hr, ab_j0_off _ (by omega)]
theorem h_68 (hs : P.length = s) (hz : s + 200 ≤ 900) : ∀ (j k fu : Nat) (I : Nat → Nat → Int32) (J : Nat → Nat → Int64), k + j = 2 → j < fu → ∃ I' J', bb_X4_init_68 fu s (nI k) (P ++ HO s :: (5, 10, HFA s 10) :: (5, 2, HFB s k) :: SITS s (10 + k), I, J, 0) = some ((), (P ++ HO s :: (5, 10, HFA s 10) :: (5, 2, HFB s 2) :: SITS s 12, I', J', 0)) ∧ (∀ r, r < s + 103 + 10 * k → I' r = I r) ∧ (∀ r, r < s + 103 + 10 * k → J' r = J r) ∧ ∀ i, k ≤ i → i < 2 → siI I' (s + 103 + 10 * i) := by
  intro j
  induction j with
  | zero =>
    intro k fu I J hk hf
    obtain ⟨fu, rfl⟩ : ∃ z, fu = z + 1 := ⟨fu - 1, by omega⟩
    have ek : k = 2 := by omega
    subst ek
    have f1 : ab_fR (P ++ HO s :: (5, 10, HFA s 10) :: (5, 2, HFB s 2) :: SITS s (10 + 2), I, J, 0) 4 s 1 = some (s + 2) := op_fR (fs := [some (some (s + 1)), some (some (s + 2)), none, none, none]) (by rw [← Nat.add_zero s, g_at hs]; rfl) rfl
    have l1 : ab_len (P ++ HO s :: (5, 10, HFA s 10) :: (5, 2, HFB s 2) :: SITS s (10 + 2), I, J, 0) 5 (s + 2) = some (nI 2) := op_len (fs := HFB s 2) (by rw [g_at hs]; rfl)
    refine ⟨I, J, ?_, fun _ _ => rfl, fun _ _ => rfl, fun i h1 h2 => by omega⟩
    rw [bb_X4_init_68, f1, ob_s, l1, ob_s, if_pos (le_self _)]
  | succ j ih =>
    intro k fu I J hk hf
    obtain ⟨fu, rfl⟩ : ∃ z, fu = z + 1 := ⟨fu - 1, by omega⟩
    have f1 : ab_fR (P ++ HO s :: (5, 10, HFA s 10) :: (5, 2, HFB s k) :: SITS s (10 + k), I, J, 0) 4 s 1 = some (s + 2) := op_fR (fs := [some (some (s + 1)), some (some (s + 2)), none, none, none]) (by rw [← Nat.add_zero s, g_at hs]; rfl) rfl
    have l1 : ab_len (P ++ HO s :: (5, 10, HFA s 10) :: (5, 2, HFB s k) :: SITS s (10 + k), I, J, 0) 5 (s + 2) = some (nI 2) := op_len (fs := HFB s k) (by rw [g_at hs]; rfl)
    obtain ⟨I1, J1, a1, a2, a3, a4⟩ := h_new (I := I) (J := J) (t := s + 103 + 10 * k) hs (A := HO s :: (5, 10, HFA s 10) :: (5, 2, HFB s k) :: SITS s (10 + k)) (by show s + ((SITS s (10 + k)).length + 3) = _; rw [SITS_len]; omega) (by omega)
    have st : ab_stR (P ++ (HO s :: (5, 10, HFA s 10) :: (5, 2, HFB s k) :: SITS s (10 + k) ++ SIT (s + 103 + 10 * k)), I1, J1, 0) (s + 2) (nI k) (s + 103 + 10 * k) = some (P ++ HO s :: (5, 10, HFA s 10) :: (5, 2, HFB s (k + 1)) :: SITS s (10 + (k + 1)), I1, J1, 0) := by
      have q := n_stR (I := I1) (J := J1) (L := HO s :: (5, 10, HFA s 10) :: (5, 2, HFB s k) :: SITS s (10 + k) ++ SIT (s + 103 + 10 * k)) (i := 2) (r := s + 2) (q := s + 103 + 10 * k) (k := k) (m := 2) (fs := HFB s k) (v := nI k) (c2 := 0) hs rfl rfl (f2 := [none, none, some (some (s + 103 + 10 * k + 1)), some (some (s + 103 + 10 * k + 3)), some (some (s + 103 + 10 * k + 5)), some (some (s + 103 + 10 * k + 7)), some (some (s + 103 + 10 * k + 9))]) (by
        rw [← List.append_assoc]
        have e : (P ++ HO s :: (5, 10, HFA s 10) :: (5, 2, HFB s k) :: SITS s (10 + k)).length = s + 103 + 10 * k := by
          rw [List.length_append, hs]
          show s + ((SITS s (10 + k)).length + 3) = _
          rw [SITS_len]; omega
        rw [← Nat.add_zero (s + 103 + 10 * k), g_at e]
        rfl) rfl (by omega) (by omega) (HFB_len s k)
      rw [q]
      show some (P ++ HO s :: (5, 10, HFA s 10) :: (5, 2, HFB s (k + 1)) :: (SITS s (10 + k) ++ SIT (s + 103 + 10 * k)), I1, J1, 0) = _
      have e2 : SITS s (10 + (k + 1)) = SITS s (10 + k) ++ SIT (s + 103 + 10 * k) := by
        show SITS s (10 + k) ++ SIT (s + 3 + 10 * (10 + k)) = _
        rw [show s + 3 + 10 * (10 + k) = s + 103 + 10 * k by omega]
      rw [e2]
    obtain ⟨I2, J2, b1, b2, b3, b4⟩ := ih (k + 1) fu I1 J1 (by omega) (by omega)
    refine ⟨I2, J2, ?_, fun r hr => by rw [b2 r (by omega), a2 r hr], fun r hr => by rw [b3 r (by omega), a3 r hr], fun i h1 h2 => ?_⟩
    · rw [bb_X4_init_68, f1, ob_s, l1, ob_s, if_neg (by rw [li_le (by omega) (by omega)]; omega), ob_s]
      refine (a1 (fun v m => (ab_stR m (s + 2) (nI k) v).bind fun m6 => bb_X4_init_68 fu s (nI k + 1) m6)).trans ?_
      rw [st, ob_s, nI_1]
      exact b1
    · by_cases e : i = k
      · rw [e]
        have q := a4.1
        unfold siI tI at q ⊢
        rw [b2 (s + 103 + 10 * k + 1) (by omega), b2 (s + 103 + 10 * k + 3) (by omega), b2 (s + 103 + 10 * k + 5) (by omega), b2 (s + 103 + 10 * k + 7) (by omega)]
        exact q
      · exact b4 i (by omega) h2
theorem h_38 (hs : P.length = s) (hz : s + 200 ≤ 900) : ∀ (j k fu : Nat) (I : Nat → Nat → Int32) (J : Nat → Nat → Int64), k + j = 10 → j < fu → ∃ I' J', bb_X4_init_38 fu s (nI k) (P ++ HO s :: (5, 10, HFA s k) :: (5, 2, HFB s 0) :: SITS s k, I, J, 0) = some ((), (P ++ HO s :: (5, 10, HFA s 10) :: (5, 2, HFB s 2) :: SITS s 12, I', J', 0)) ∧ (∀ r, r < s + 3 + 10 * k → I' r = I r) ∧ (∀ r, r < s + 3 + 10 * k → J' r = J r) ∧ ∀ i, k ≤ i → i < 12 → siI I' (s + 3 + 10 * i) := by
  intro j
  induction j with
  | zero =>
    intro k fu I J hk hf
    obtain ⟨fu, rfl⟩ : ∃ z, fu = z + 1 := ⟨fu - 1, by omega⟩
    have ek : k = 10 := by omega
    subst ek
    have f1 : ab_fR (P ++ HO s :: (5, 10, HFA s 10) :: (5, 2, HFB s 0) :: SITS s 10, I, J, 0) 4 s 0 = some (s + 1) := op_fR (fs := [some (some (s + 1)), some (some (s + 2)), none, none, none]) (by rw [← Nat.add_zero s, g_at hs]; rfl) rfl
    have l1 : ab_len (P ++ HO s :: (5, 10, HFA s 10) :: (5, 2, HFB s 0) :: SITS s 10, I, J, 0) 5 (s + 1) = some (nI 10) := op_len (fs := HFA s 10) (by rw [g_at hs]; rfl)
    obtain ⟨I2, J2, b1, b2, b3, b4⟩ := h_68 hs hz 2 0 ab_fu I J (by omega) (ab_fu_big (by omega))
    refine ⟨I2, J2, ?_, fun r hr => b2 r (by omega), fun r hr => b3 r (by omega), fun i h1 h2 => ?_⟩
    · rw [bb_X4_init_38, f1, ob_s, l1, ob_s, if_pos (le_self _)]
      exact b1
    · have q := b4 (i - 10) (by omega) (by omega)
      rw [show s + 103 + 10 * (i - 10) = s + 3 + 10 * i by omega] at q
      exact q
  | succ j ih =>
    intro k fu I J hk hf
    obtain ⟨fu, rfl⟩ : ∃ z, fu = z + 1 := ⟨fu - 1, by omega⟩
    have f1 : ab_fR (P ++ HO s :: (5, 10, HFA s k) :: (5, 2, HFB s 0) :: SITS s k, I, J, 0) 4 s 0 = some (s + 1) := op_fR (fs := [some (some (s + 1)), some (some (s + 2)), none, none, none]) (by rw [← Nat.add_zero s, g_at hs]; rfl) rfl
    have l1 : ab_len (P ++ HO s :: (5, 10, HFA s k) :: (5, 2, HFB s 0) :: SITS s k, I, J, 0) 5 (s + 1) = some (nI 10) := op_len (fs := HFA s k) (by rw [g_at hs]; rfl)
    obtain ⟨I1, J1, a1, a2, a3, a4⟩ := h_new (I := I) (J := J) (t := s + 3 + 10 * k) hs (A := HO s :: (5, 10, HFA s k) :: (5, 2, HFB s 0) :: SITS s k) (by show s + ((SITS s k).length + 3) = _; rw [SITS_len]; omega) (by omega)
    have st : ab_stR (P ++ (HO s :: (5, 10, HFA s k) :: (5, 2, HFB s 0) :: SITS s k ++ SIT (s + 3 + 10 * k)), I1, J1, 0) (s + 1) (nI k) (s + 3 + 10 * k) = some (P ++ HO s :: (5, 10, HFA s (k + 1)) :: (5, 2, HFB s 0) :: SITS s (k + 1), I1, J1, 0) := by
      have q := n_stR (I := I1) (J := J1) (L := HO s :: (5, 10, HFA s k) :: (5, 2, HFB s 0) :: SITS s k ++ SIT (s + 3 + 10 * k)) (i := 1) (r := s + 1) (q := s + 3 + 10 * k) (k := k) (m := 10) (fs := HFA s k) (v := nI k) (c2 := 0) hs rfl rfl (f2 := [none, none, some (some (s + 3 + 10 * k + 1)), some (some (s + 3 + 10 * k + 3)), some (some (s + 3 + 10 * k + 5)), some (some (s + 3 + 10 * k + 7)), some (some (s + 3 + 10 * k + 9))]) (by
        rw [← List.append_assoc]
        have e : (P ++ HO s :: (5, 10, HFA s k) :: (5, 2, HFB s 0) :: SITS s k).length = s + 3 + 10 * k := by
          rw [List.length_append, hs]
          show s + ((SITS s k).length + 3) = _
          rw [SITS_len]; omega
        rw [← Nat.add_zero (s + 3 + 10 * k), g_at e]
        rfl) rfl (by omega) (by omega) (HFA_len s k)
      rw [q]
      rfl
    obtain ⟨I2, J2, b1, b2, b3, b4⟩ := ih (k + 1) fu I1 J1 (by omega) (by omega)
    refine ⟨I2, J2, ?_, fun r hr => by rw [b2 r (by omega), a2 r hr], fun r hr => by rw [b3 r (by omega), a3 r hr], fun i h1 h2 => ?_⟩
    · rw [bb_X4_init_38, f1, ob_s, l1, ob_s, if_neg (by rw [li_le (by omega) (by omega)]; omega), ob_s]
      refine (a1 (fun v m => (ab_stR m (s + 1) (nI k) v).bind fun m6 => bb_X4_init_38 fu s (nI k + 1) m6)).trans ?_
      rw [st, ob_s, nI_1]
      exact b1
    · by_cases e : i = k
      · rw [e]
        have q := a4.1
        unfold siI tI at q ⊢
        rw [b2 (s + 3 + 10 * k + 1) (by omega), b2 (s + 3 + 10 * k + 3) (by omega), b2 (s + 3 + 10 * k + 5) (by omega), b2 (s + 3 + 10 * k + 7) (by omega)]
        exact q
      · exact b4 i (by omega) h2
def HIS (s : Nat) : List ab_Sh := HO s :: (5, 10, HFA s 10) :: (5, 2, HFB s 2) :: SITS s 12
theorem Ini_4 : Ini dd_X4_init (0, 4, [some none, some none, none, none, none]) HIS 200 (fun s I _ => (I s 2 = 0 ∧ I s 3 = 0 ∧ I s 4 = 0) ∧ ∀ i, i < 12 → siI I (s + 3 + 10 * i)) := by
  intro P s I J hs h9
  have a1 := fun G => n_nq (I := I) (J := J) (L := []) (t := s + 1) (ci := 4) (k := 0) (fs := [some none, some none, none, none, none]) hs rfl (by omega) (li_n 10) (by omega) rfl G
  have b1 := fun G => n_nq (I := ab_i0 I (s + 1)) (J := ab_j0 J (s + 1)) (L := [(5, 10, List.replicate 10 (some none))]) (t := s + 2) (ci := 4) (k := 1) (fs := [some (some (s + 1)), some none, none, none, none]) hs rfl (by omega) (li_n 2) (by omega) rfl G
  have p : ∀ (Ia : Nat → Nat → Int32) (k : Nat) (v : Int32), ([some (some (s + 1)), some (some (s + 2)), none, none, none] : List (Option (Option Nat)))[k]? = some none → ab_pI (P ++ HO s :: (5, 10, HFA s 0) :: (5, 2, HFB s 0) :: SITS s 0, Ia, ab_j0 (ab_j0 J (s + 1)) (s + 2), 0) 4 s k v = some (P ++ HO s :: (5, 10, HFA s 0) :: (5, 2, HFB s 0) :: SITS s 0, ab_u Ia s k v, ab_j0 (ab_j0 J (s + 1)) (s + 2), 0) := fun Ia k v h => n_own (L := (5, 10, HFA s 0) :: (5, 2, HFB s 0) :: SITS s 0) hs v h
  obtain ⟨I2, J2, c1, c2, c3, c4⟩ := h_38 hs h9 10 0 ab_fu (ab_u (ab_u (ab_u (ab_i0 (ab_i0 I (s + 1)) (s + 2)) s 2 0) s 3 0) s 4 0) (ab_j0 (ab_j0 J (s + 1)) (s + 2)) (by omega) (ab_fu_big (by omega))
  refine ⟨I2, J2, ?_, fun r hr => ?_, fun r hr => ?_, ⟨?_, ?_, ?_⟩, fun i hi => c4 i (by omega) hi⟩
  · unfold dd_X4_init
    refine (a1 _).trans ((b1 _).trans ?_)
    show (ab_pI (P ++ HO s :: (5, 10, HFA s 0) :: (5, 2, HFB s 0) :: SITS s 0, ab_i0 (ab_i0 I (s + 1)) (s + 2), ab_j0 (ab_j0 J (s + 1)) (s + 2), 0) 4 s 2 0).bind _ = _
    rw [p _ 2 _ rfl, ob_s, p _ 3 _ rfl, ob_s, p _ 4 _ rfl, ob_s]
    exact c1
  · rw [c2 r (by omega), u_r (by omega), u_r (by omega), u_r (by omega), ab_i0_off _ (by omega), ab_i0_off _ (by omega)]
  · rw [c3 r (by omega), ab_j0_off _ (by omega), ab_j0_off _ (by omega)]
  · rw [c2 s (by omega), u_k (by omega), u_k (by omega), u_e]
  · rw [c2 s (by omega), u_k (by omega), u_e]
  · rw [c2 s (by omega), u_e]
end CH2
