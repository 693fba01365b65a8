/-! ===== the law's calls ===== -/
section LW
variable {I I' I0 I1 I2 : Nat → Nat → Int32} {J J' J1 J2 : Nat → Nat → Int64} {x y : Nat}
theorem sh_218 : S0[220]? = some (4, 1, []) := rfl
/-- the law's call: the class's answer lies in 218, the model answers alike, all holds again -/
def Law {α : Type} (dl : ab_Mm → Option (Int32 × ab_Mm)) (md : ab_Mm → Option (α × ab_Mm)) (tj : α → Int64) (I : Nat → Nat → Int32) (J : Nat → Nat → Int64) (x : Nat) : Prop := ∃ r I1 J1 x1 v I2 J2, dl (S0, I, J, x) = some (r, (S0, I1, J1, x1)) ∧ md (S0, I1, J1, x1) = some (v, (S0, I2, J2, x1)) ∧ Inv I2 J2 ∧ I2 200 0 = r ∧ (r = 0 → J2 220 0 = tj v) ∧ x1 ≤ x + 1
theorem Law_of {α : Type} {cl : ab_Mm → Option ((α ⊕ Nat) × ab_Mm)} {dl : ab_Mm → Option (Int32 × ab_Mm)} {md : ab_Mm → Option (α × ab_Mm)} {cd : Nat → Option Int32} {tj : α → Int64} (h : Cal cl md cd I J x) (h1 : ∀ w I1 J1 x1, cl (S0, I, J, x) = some (.inl w, (S0, I1, J1, x1)) → dl (S0, I, J, x) = some (0, (S0, I1, ab_u J1 220 0 (tj w), x1))) (h2 : ∀ k c I1 J1 x1, cl (S0, I, J, x) = some (.inr k, (S0, I1, J1, x1)) → cd k = some c → dl (S0, I, J, x) = some (c, (S0, I1, J1, x1))) : Law dl md tj I J x := by
  obtain ⟨res, I1, J1, x1, a1, a2, a3⟩ := h
  match res, a1, a3 with
  | .inl w, a1, a3 =>
    obtain ⟨v, I2, J2, b1, b2, b3, b4, b5⟩ := a3 (ab_u J1 220 0 (tj w)) (fun r hr => u_r hr)
    exact ⟨0, I1, _, x1, v, I2, J2, h1 w I1 J1 x1 a1, b1, b2, b4, fun _ => by rw [b3, u_e, b5], a2⟩
  | .inr k, a1, a3 =>
    obtain ⟨v, I2, J2, b1, b2, b3, c, b4, b5, b6⟩ := a3 J1 (fun r hr => rfl)
    exact ⟨c, I1, J1, x1, v, I2, J2, h2 k c I1 J1 x1 a1 b4, b1, b2, b6, fun z => absurd z b5, a2⟩
theorem s_218 (v : Int64) : ab_stJ (S0, I, J, x) 220 0 v = some (S0, I, ab_u J 220 0 v, x) := op_stJ v sh_218 li_0 (by omega) (by omega)
theorem l_218 : ab_ldJ (S0, I, J, x) 220 0 = some (J 220 0) := op_ldJ sh_218 li_0 (by omega) (by omega)
def cd0 : Nat → Option Int32 := fun k => if k = 0 then some 1 else none
def cdP : Nat → Option Int32 := fun k => if k = 2 then some 1 else none
def cd01 : Nat → Option Int32 := fun k => if k = 0 then some 1 else if k = 1 then some 2 else none
def cd02 : Nat → Option Int32 := fun k => if k = 0 then some 1 else if k = 2 then some 2 else none
def cd21 : Nat → Option Int32 := fun k => if k = 2 then some 1 else if k = 1 then some 2 else none
def cdB : Nat → Option Int32 := fun k => if k = 0 then some 1 else if k = 2 then some 2 else if k = 1 then some 3 else none
def bj (w : Int32) : Int64 := if w = 0 then 0 else 1
theorem l_parse (hi : Inv I J) (a : Int32) : Law (fun m => dd_L_parse 0 a 220 m) (dd_X12_parse 200 a) Int32.toInt64 I J x := by
  refine Law_of (cd := cdP) (q_parse hi cdP rfl a) (fun w I1 J1 x1 h => ?_) (fun k c I1 J1 x1 h hc => ?_)
  · show dd_L_parse 0 a 220 (S0, I, J, x) = _
    unfold dd_L_parse
    rw [c_rc, ob_s, h, ob_s]
    dsimp only
    rw [s_218, ob_s]
  · show dd_L_parse 0 a 220 (S0, I, J, x) = _
    unfold dd_L_parse
    rw [c_rc, ob_s, h, ob_s]
    dsimp only
    unfold cdP at hc
    by_cases k2 : k = 2
    · rw [if_pos k2] at hc ⊢
      cases hc; rfl
    · rw [if_neg k2] at hc
      cases hc
theorem l_free (hi : Inv I J) (a b2 : Int32) : Law (fun m => dd_L_free 0 a b2 220 m) (dd_X12_free 200 a b2) Int32.toInt64 I J x := by
  obtain ⟨NH, NY, NE, NR, q⟩ := Inv_Q hi
  refine Law_of (cd := cd0) (Qry_Cal (q_free q a b2) hi rfl) (fun w I1 J1 x1 h => ?_) (fun k c I1 J1 x1 h hc => ?_)
  · show dd_L_free 0 a b2 220 (S0, I, J, x) = _
    unfold dd_L_free
    rw [c_rc, ob_s, h, ob_s]
    dsimp only
    rw [s_218, ob_s]
  · show dd_L_free 0 a b2 220 (S0, I, J, x) = _
    unfold dd_L_free
    rw [c_rc, ob_s, h, ob_s]
    dsimp only
    unfold cd0 at hc
    by_cases k0 : k = 0
    · rw [if_pos k0] at hc ⊢
      cases hc; rfl
    · rw [if_neg k0] at hc
      cases hc
theorem l_instancesOn (hi : Inv I J) (a : Int32) : Law (fun m => dd_L_instancesOn 0 a 220 m) (dd_X12_instancesOn 200 a) Int32.toInt64 I J x := by
  obtain ⟨NH, NY, NE, NR, q⟩ := Inv_Q hi
  refine Law_of (cd := cd0) (Qry_Cal (q_instancesOn q a) hi rfl) (fun w I1 J1 x1 h => ?_) (fun k c I1 J1 x1 h hc => ?_)
  · show dd_L_instancesOn 0 a 220 (S0, I, J, x) = _
    unfold dd_L_instancesOn
    rw [c_rc, ob_s, h, ob_s]
    dsimp only
    rw [s_218, ob_s]
  · show dd_L_instancesOn 0 a 220 (S0, I, J, x) = _
    unfold dd_L_instancesOn
    rw [c_rc, ob_s, h, ob_s]
    dsimp only
    unfold cd0 at hc
    by_cases k0 : k = 0
    · rw [if_pos k0] at hc ⊢
      cases hc; rfl
    · rw [if_neg k0] at hc
      cases hc
theorem l_spotPrice (hi : Inv I J) (a : Int32) : Law (fun m => dd_L_spotPrice 0 a 220 m) (dd_X12_spotPrice 200 a) Int32.toInt64 I J x := by
  obtain ⟨NH, NY, NE, NR, q⟩ := Inv_Q hi
  refine Law_of (cd := cd0) (Qry_Cal (q_spotPrice q a) hi rfl) (fun w I1 J1 x1 h => ?_) (fun k c I1 J1 x1 h hc => ?_)
  · show dd_L_spotPrice 0 a 220 (S0, I, J, x) = _
    unfold dd_L_spotPrice
    rw [c_rc, ob_s, h, ob_s]
    dsimp only
    rw [s_218, ob_s]
  · show dd_L_spotPrice 0 a 220 (S0, I, J, x) = _
    unfold dd_L_spotPrice
    rw [c_rc, ob_s, h, ob_s]
    dsimp only
    unfold cd0 at hc
    by_cases k0 : k = 0
    · rw [if_pos k0] at hc ⊢
      cases hc; rfl
    · rw [if_neg k0] at hc
      cases hc
theorem l_bestHost (hi : Inv I J) (a : Int32) : Law (fun m => dd_L_bestHost 0 a 220 m) (dd_X12_bestHost 200 a) Int32.toInt64 I J x := by
  obtain ⟨NH, NY, NE, NR, q⟩ := Inv_Q hi
  refine Law_of (cd := cd0) (Qry_Cal (q_bestHost q a) hi rfl) (fun w I1 J1 x1 h => ?_) (fun k c I1 J1 x1 h hc => ?_)
  · show dd_L_bestHost 0 a 220 (S0, I, J, x) = _
    unfold dd_L_bestHost
    rw [c_rc, ob_s, h, ob_s]
    dsimp only
    rw [s_218, ob_s]
  · show dd_L_bestHost 0 a 220 (S0, I, J, x) = _
    unfold dd_L_bestHost
    rw [c_rc, ob_s, h, ob_s]
    dsimp only
    unfold cd0 at hc
    by_cases k0 : k = 0
    · rw [if_pos k0] at hc ⊢
      cases hc; rfl
    · rw [if_neg k0] at hc
      cases hc
theorem l_room (hi : Inv I J) (a : Int32) : Law (fun m => dd_L_room 0 a 220 m) (dd_X12_room 200 a) Int32.toInt64 I J x := by
  obtain ⟨NH, NY, NE, NR, q⟩ := Inv_Q hi
  refine Law_of (cd := cd0) (Qry_Cal (q_room q a) hi rfl) (fun w I1 J1 x1 h => ?_) (fun k c I1 J1 x1 h hc => ?_)
  · show dd_L_room 0 a 220 (S0, I, J, x) = _
    unfold dd_L_room
    rw [c_rc, ob_s, h, ob_s]
    dsimp only
    rw [s_218, ob_s]
  · show dd_L_room 0 a 220 (S0, I, J, x) = _
    unfold dd_L_room
    rw [c_rc, ob_s, h, ob_s]
    dsimp only
    unfold cd0 at hc
    by_cases k0 : k = 0
    · rw [if_pos k0] at hc ⊢
      cases hc; rfl
    · rw [if_neg k0] at hc
      cases hc
theorem l_typeOf (hi : Inv I J) (a : Int32) : Law (fun m => dd_L_typeOf 0 a 220 m) (dd_X12_typeOf 200 a) Int32.toInt64 I J x := by
  obtain ⟨NH, NY, NE, NR, q⟩ := Inv_Q hi
  refine Law_of (cd := cd0) (Qry_Cal (q_typeOf q a) hi rfl) (fun w I1 J1 x1 h => ?_) (fun k c I1 J1 x1 h hc => ?_)
  · show dd_L_typeOf 0 a 220 (S0, I, J, x) = _
    unfold dd_L_typeOf
    rw [c_rc, ob_s, h, ob_s]
    dsimp only
    rw [s_218, ob_s]
  · show dd_L_typeOf 0 a 220 (S0, I, J, x) = _
    unfold dd_L_typeOf
    rw [c_rc, ob_s, h, ob_s]
    dsimp only
    unfold cd0 at hc
    by_cases k0 : k = 0
    · rw [if_pos k0] at hc ⊢
      cases hc; rfl
    · rw [if_neg k0] at hc
      cases hc
theorem l_tenantOf (hi : Inv I J) (a : Int32) : Law (fun m => dd_L_tenantOf 0 a 220 m) (dd_X12_tenantOf 200 a) Int32.toInt64 I J x := by
  obtain ⟨NH, NY, NE, NR, q⟩ := Inv_Q hi
  refine Law_of (cd := cd0) (Qry_Cal (q_tenantOf q a) hi rfl) (fun w I1 J1 x1 h => ?_) (fun k c I1 J1 x1 h hc => ?_)
  · show dd_L_tenantOf 0 a 220 (S0, I, J, x) = _
    unfold dd_L_tenantOf
    rw [c_rc, ob_s, h, ob_s]
    dsimp only
    rw [s_218, ob_s]
  · show dd_L_tenantOf 0 a 220 (S0, I, J, x) = _
    unfold dd_L_tenantOf
    rw [c_rc, ob_s, h, ob_s]
    dsimp only
    unfold cd0 at hc
    by_cases k0 : k = 0
    · rw [if_pos k0] at hc ⊢
      cases hc; rfl
    · rw [if_neg k0] at hc
      cases hc
theorem l_hostOf (hi : Inv I J) (a : Int32) : Law (fun m => dd_L_hostOf 0 a 220 m) (dd_X12_hostOf 200 a) Int32.toInt64 I J x := by
  obtain ⟨NH, NY, NE, NR, q⟩ := Inv_Q hi
  refine Law_of (cd := cd0) (Qry_Cal (q_hostOf q a) hi rfl) (fun w I1 J1 x1 h => ?_) (fun k c I1 J1 x1 h hc => ?_)
  · show dd_L_hostOf 0 a 220 (S0, I, J, x) = _
    unfold dd_L_hostOf
    rw [c_rc, ob_s, h, ob_s]
    dsimp only
    rw [s_218, ob_s]
  · show dd_L_hostOf 0 a 220 (S0, I, J, x) = _
    unfold dd_L_hostOf
    rw [c_rc, ob_s, h, ob_s]
    dsimp only
    unfold cd0 at hc
    by_cases k0 : k = 0
    · rw [if_pos k0] at hc ⊢
      cases hc; rfl
    · rw [if_neg k0] at hc
      cases hc
theorem l_bidOf (hi : Inv I J) (a : Int32) : Law (fun m => dd_L_bidOf 0 a 220 m) (dd_X12_bidOf 200 a) Int32.toInt64 I J x := by
  obtain ⟨NH, NY, NE, NR, q⟩ := Inv_Q hi
  refine Law_of (cd := cd0) (Qry_Cal (q_bidOf q a) hi rfl) (fun w I1 J1 x1 h => ?_) (fun k c I1 J1 x1 h hc => ?_)
  · show dd_L_bidOf 0 a 220 (S0, I, J, x) = _
    unfold dd_L_bidOf
    rw [c_rc, ob_s, h, ob_s]
    dsimp only
    rw [s_218, ob_s]
  · show dd_L_bidOf 0 a 220 (S0, I, J, x) = _
    unfold dd_L_bidOf
    rw [c_rc, ob_s, h, ob_s]
    dsimp only
    unfold cd0 at hc
    by_cases k0 : k = 0
    · rw [if_pos k0] at hc ⊢
      cases hc; rfl
    · rw [if_neg k0] at hc
      cases hc
theorem l_noticeOf (hi : Inv I J) (a : Int32) : Law (fun m => dd_L_noticeOf 0 a 220 m) (dd_X12_noticeOf 200 a) Int32.toInt64 I J x := by
  obtain ⟨NH, NY, NE, NR, q⟩ := Inv_Q hi
  refine Law_of (cd := cd0) (Qry_Cal (q_noticeOf q a) hi rfl) (fun w I1 J1 x1 h => ?_) (fun k c I1 J1 x1 h hc => ?_)
  · show dd_L_noticeOf 0 a 220 (S0, I, J, x) = _
    unfold dd_L_noticeOf
    rw [c_rc, ob_s, h, ob_s]
    dsimp only
    rw [s_218, ob_s]
  · show dd_L_noticeOf 0 a 220 (S0, I, J, x) = _
    unfold dd_L_noticeOf
    rw [c_rc, ob_s, h, ob_s]
    dsimp only
    unfold cd0 at hc
    by_cases k0 : k = 0
    · rw [if_pos k0] at hc ⊢
      cases hc; rfl
    · rw [if_neg k0] at hc
      cases hc
theorem l_spent (hi : Inv I J) (a : Int32) : Law (fun m => dd_L_spent 0 a 220 m) (dd_X12_spent 200 a) id I J x := by
  obtain ⟨NH, NY, NE, NR, q⟩ := Inv_Q hi
  refine Law_of (cd := cd0) (QryL_Cal (q_spent q a) hi rfl) (fun w I1 J1 x1 h => ?_) (fun k c I1 J1 x1 h hc => ?_)
  · show dd_L_spent 0 a 220 (S0, I, J, x) = _
    unfold dd_L_spent
    rw [c_rc, ob_s, h, ob_s]
    dsimp only
    rw [s_218, ob_s]
    rfl
  · show dd_L_spent 0 a 220 (S0, I, J, x) = _
    unfold dd_L_spent
    rw [c_rc, ob_s, h, ob_s]
    dsimp only
    unfold cd0 at hc
    by_cases k0 : k = 0
    · rw [if_pos k0] at hc ⊢
      cases hc; rfl
    · rw [if_neg k0] at hc
      cases hc
theorem l_hourlyBill (hi : Inv I J) (a : Int32) : Law (fun m => dd_L_hourlyBill 0 a 220 m) (dd_X12_hourlyBill 200 a) Int32.toInt64 I J x := by
  refine Law_of (cd := cd0) (q_hourlyBill hi cd0 rfl a) (fun w I1 J1 x1 h => ?_) (fun k c I1 J1 x1 h hc => ?_)
  · show dd_L_hourlyBill 0 a 220 (S0, I, J, x) = _
    unfold dd_L_hourlyBill
    rw [c_rc, ob_s, h, ob_s]
    dsimp only
    rw [s_218, ob_s]
  · show dd_L_hourlyBill 0 a 220 (S0, I, J, x) = _
    unfold dd_L_hourlyBill
    rw [c_rc, ob_s, h, ob_s]
    dsimp only
    unfold cd0 at hc
    by_cases k0 : k = 0
    · rw [if_pos k0] at hc ⊢
      cases hc; rfl
    · rw [if_neg k0] at hc
      cases hc
theorem l_covered (hi : Inv I J) (a b2 : Int32) : Law (fun m => dd_L_covered 0 a b2 220 m) (dd_X12_covered 200 a b2) Int32.toInt64 I J x := by
  obtain ⟨NH, NY, NE, NR, q⟩ := Inv_Q hi
  refine Law_of (cd := cd0) (Qry_Cal (q_covered q a b2) hi rfl) (fun w I1 J1 x1 h => ?_) (fun k c I1 J1 x1 h hc => ?_)
  · show dd_L_covered 0 a b2 220 (S0, I, J, x) = _
    unfold dd_L_covered
    rw [c_rc, ob_s, h, ob_s]
    dsimp only
    rw [s_218, ob_s]
  · show dd_L_covered 0 a b2 220 (S0, I, J, x) = _
    unfold dd_L_covered
    rw [c_rc, ob_s, h, ob_s]
    dsimp only
    unfold cd0 at hc
    by_cases k0 : k = 0
    · rw [if_pos k0] at hc ⊢
      cases hc; rfl
    · rw [if_neg k0] at hc
      cases hc
theorem l_isOverBudget (hi : Inv I J) (a : Int32) : Law (fun m => dd_L_isOverBudget 0 a 220 m) (dd_X12_isOverBudget 200 a) bj I J x := by
  obtain ⟨NH, NY, NE, NR, q⟩ := Inv_Q hi
  refine Law_of (cd := cd0) (Qry_Cal (q_isOver q a) hi rfl) (fun w I1 J1 x1 h => ?_) (fun k c I1 J1 x1 h hc => ?_)
  · show dd_L_isOverBudget 0 a 220 (S0, I, J, x) = _
    unfold dd_L_isOverBudget
    rw [c_rc, ob_s, h, ob_s]
    dsimp only
    unfold bj
    by_cases z : w = 0
    · rw [if_pos z, if_pos z, bb_L_isOverBudget_15, s_218, ob_s]
    · rw [if_neg z, if_neg z, bb_L_isOverBudget_15, s_218, ob_s]
  · show dd_L_isOverBudget 0 a 220 (S0, I, J, x) = _
    unfold dd_L_isOverBudget
    rw [c_rc, ob_s, h, ob_s]
    dsimp only
    unfold cd0 at hc
    by_cases k0 : k = 0
    · rw [if_pos k0] at hc ⊢
      cases hc; rfl
    · rw [if_neg k0] at hc
      cases hc
theorem l_pays (hi : Inv I J) (a : Int32) : Law (fun m => dd_L_pays 0 a 220 m) (dd_X12_pays 200 a) bj I J x := by
  obtain ⟨NH, NY, NE, NR, q⟩ := Inv_Q hi
  refine Law_of (cd := cd0) (Qry_Cal (q_pays q a) hi rfl) (fun w I1 J1 x1 h => ?_) (fun k c I1 J1 x1 h hc => ?_)
  · show dd_L_pays 0 a 220 (S0, I, J, x) = _
    unfold dd_L_pays
    rw [c_rc, ob_s, h, ob_s]
    dsimp only
    unfold bj
    by_cases z : w = 0
    · rw [if_pos z, if_pos z, bb_L_pays_15, s_218, ob_s]
    · rw [if_neg z, if_neg z, bb_L_pays_15, s_218, ob_s]
  · show dd_L_pays 0 a 220 (S0, I, J, x) = _
    unfold dd_L_pays
    rw [c_rc, ob_s, h, ob_s]
    dsimp only
    unfold cd0 at hc
    by_cases k0 : k = 0
    · rw [if_pos k0] at hc ⊢
      cases hc; rfl
    · rw [if_neg k0] at hc
      cases hc
theorem l_cheapestEviction (hi : Inv I J) (a b2 : Int32) : Law (fun m => dd_L_cheapestEviction 0 a b2 220 m) (dd_X12_cheapestEviction 200 a b2) Int32.toInt64 I J x := by
  refine Law_of (cd := cd0) (q_cheapest hi cd0 rfl a b2) (fun w I1 J1 x1 h => ?_) (fun k c I1 J1 x1 h hc => ?_)
  · show dd_L_cheapestEviction 0 a b2 220 (S0, I, J, x) = _
    unfold dd_L_cheapestEviction
    rw [c_rc, ob_s, h, ob_s]
    dsimp only
    rw [s_218, ob_s]
  · show dd_L_cheapestEviction 0 a b2 220 (S0, I, J, x) = _
    unfold dd_L_cheapestEviction
    rw [c_rc, ob_s, h, ob_s]
    dsimp only
    unfold cd0 at hc
    by_cases k0 : k = 0
    · rw [if_pos k0] at hc ⊢
      cases hc; rfl
    · rw [if_neg k0] at hc
      cases hc
theorem l_migrationCost (hi : Inv I J) (a : Int32) : Law (fun m => dd_L_migrationCost 0 a 220 m) (dd_X12_migrationCost 200 a) Int32.toInt64 I J x := by
  refine Law_of (cd := cd0) (q_migrationCost hi cd0 rfl a) (fun w I1 J1 x1 h => ?_) (fun k c I1 J1 x1 h hc => ?_)
  · show dd_L_migrationCost 0 a 220 (S0, I, J, x) = _
    unfold dd_L_migrationCost
    rw [c_rc, ob_s, h, ob_s]
    dsimp only
    rw [s_218, ob_s]
  · show dd_L_migrationCost 0 a 220 (S0, I, J, x) = _
    unfold dd_L_migrationCost
    rw [c_rc, ob_s, h, ob_s]
    dsimp only
    unfold cd0 at hc
    by_cases k0 : k = 0
    · rw [if_pos k0] at hc ⊢
      cases hc; rfl
    · rw [if_neg k0] at hc
      cases hc
theorem l_drainTo (hi : Inv I J) (a b2 : Int32) : Law (fun m => dd_L_drainTo 0 a b2 220 m) (dd_X12_drainTo 200 a b2) Int32.toInt64 I J x := by
  refine Law_of (cd := cd01) (q_drainTo hi cd01 rfl rfl a b2) (fun w I1 J1 x1 h => ?_) (fun k c I1 J1 x1 h hc => ?_)
  · show dd_L_drainTo 0 a b2 220 (S0, I, J, x) = _
    unfold dd_L_drainTo
    rw [c_rc, ob_s, h, ob_s]
    dsimp only
    rw [s_218, ob_s]
  · show dd_L_drainTo 0 a b2 220 (S0, I, J, x) = _
    unfold dd_L_drainTo
    rw [c_rc, ob_s, h, ob_s]
    dsimp only
    unfold cd01 at hc
    by_cases k0 : k = 0
    · rw [if_pos k0] at hc ⊢
      cases hc; rfl
    by_cases k1 : k = 1
    · rw [if_neg k0, if_pos k1] at hc ⊢
      cases hc; rfl
    · rw [if_neg k0, if_neg k1] at hc
      cases hc
theorem l_priceAfter (hi : Inv I J) (a b2 : Int32) : Law (fun m => dd_L_priceAfter 0 a b2 220 m) (dd_X12_priceAfter 200 a b2) Int32.toInt64 I J x := by
  refine Law_of (cd := cd02) (q_priceAfter hi cd02 rfl rfl a b2) (fun w I1 J1 x1 h => ?_) (fun k c I1 J1 x1 h hc => ?_)
  · show dd_L_priceAfter 0 a b2 220 (S0, I, J, x) = _
    unfold dd_L_priceAfter
    rw [c_rc, ob_s, h, ob_s]
    dsimp only
    rw [s_218, ob_s]
  · show dd_L_priceAfter 0 a b2 220 (S0, I, J, x) = _
    unfold dd_L_priceAfter
    rw [c_rc, ob_s, h, ob_s]
    dsimp only
    unfold cd02 at hc
    by_cases k0 : k = 0
    · rw [if_pos k0] at hc ⊢
      cases hc; rfl
    by_cases k2 : k = 2
    · rw [if_neg k0, if_pos k2] at hc ⊢
      cases hc; rfl
    · rw [if_neg k0, if_neg k2] at hc
      cases hc
theorem l_evictedAfter (hi : Inv I J) (a : Int32) : Law (fun m => dd_L_evictedAfter 0 a 220 m) (dd_X12_evictedAfter 200 a) Int32.toInt64 I J x := by
  refine Law_of (cd := cd0) (q_evictedAfter hi cd0 rfl a) (fun w I1 J1 x1 h => ?_) (fun k c I1 J1 x1 h hc => ?_)
  · show dd_L_evictedAfter 0 a 220 (S0, I, J, x) = _
    unfold dd_L_evictedAfter
    rw [c_rc, ob_s, h, ob_s]
    dsimp only
    rw [s_218, ob_s]
  · show dd_L_evictedAfter 0 a 220 (S0, I, J, x) = _
    unfold dd_L_evictedAfter
    rw [c_rc, ob_s, h, ob_s]
    dsimp only
    unfold cd0 at hc
    by_cases k0 : k = 0
    · rw [if_pos k0] at hc ⊢
      cases hc; rfl
    · rw [if_neg k0] at hc
      cases hc
theorem l_pass (hi : Inv I J) (a : Int32) : Law (fun m => dd_L_pass 0 a 220 m) (dd_X12_pass 200 a) Int32.toInt64 I J x := by
  refine Law_of (cd := cd21) (q_pass hi cd21 rfl rfl a) (fun w I1 J1 x1 h => ?_) (fun k c I1 J1 x1 h hc => ?_)
  · show dd_L_pass 0 a 220 (S0, I, J, x) = _
    unfold dd_L_pass
    rw [c_rc, ob_s, h, ob_s]
    dsimp only
    rw [s_218, ob_s]
  · show dd_L_pass 0 a 220 (S0, I, J, x) = _
    unfold dd_L_pass
    rw [c_rc, ob_s, h, ob_s]
    dsimp only
    unfold cd21 at hc
    by_cases k2 : k = 2
    · rw [if_pos k2] at hc ⊢
      cases hc; rfl
    by_cases k1 : k = 1
    · rw [if_neg k2, if_pos k1] at hc ⊢
      cases hc; rfl
    · rw [if_neg k2, if_neg k1] at hc
      cases hc
theorem l_launch (hi : Inv I J) (a b2 : Int32) : Law (fun m => dd_L_launch 0 a b2 220 m) (dd_X12_launch 200 a b2) Int32.toInt64 I J x := by
  refine Law_of (cd := cd01) (q_launch hi cd01 rfl rfl a b2) (fun w I1 J1 x1 h => ?_) (fun k c I1 J1 x1 h hc => ?_)
  · show dd_L_launch 0 a b2 220 (S0, I, J, x) = _
    unfold dd_L_launch
    rw [c_rc, ob_s, h, ob_s]
    dsimp only
    rw [s_218, ob_s]
  · show dd_L_launch 0 a b2 220 (S0, I, J, x) = _
    unfold dd_L_launch
    rw [c_rc, ob_s, h, ob_s]
    dsimp only
    unfold cd01 at hc
    by_cases k0 : k = 0
    · rw [if_pos k0] at hc ⊢
      cases hc; rfl
    by_cases k1 : k = 1
    · rw [if_neg k0, if_pos k1] at hc ⊢
      cases hc; rfl
    · rw [if_neg k0, if_neg k1] at hc
      cases hc
theorem l_bid (hi : Inv I J) (a b2 c2 : Int32) : Law (fun m => dd_L_bid 0 a b2 c2 220 m) (dd_X12_bid 200 a b2 c2) Int32.toInt64 I J x := by
  refine Law_of (cd := cdB) (q_bid hi cdB rfl rfl rfl a b2 c2) (fun w I1 J1 x1 h => ?_) (fun k c I1 J1 x1 h hc => ?_)
  · show dd_L_bid 0 a b2 c2 220 (S0, I, J, x) = _
    unfold dd_L_bid
    rw [c_rc, ob_s, h, ob_s]
    dsimp only
    rw [s_218, ob_s]
  · show dd_L_bid 0 a b2 c2 220 (S0, I, J, x) = _
    unfold dd_L_bid
    rw [c_rc, ob_s, h, ob_s]
    dsimp only
    unfold cdB at hc
    by_cases k0 : k = 0
    · rw [if_pos k0] at hc ⊢
      cases hc; rfl
    by_cases k2 : k = 2
    · rw [if_neg k0, if_pos k2] at hc ⊢
      cases hc; rfl
    by_cases k1 : k = 1
    · rw [if_neg k0, if_neg k2, if_pos k1] at hc ⊢
      cases hc; rfl
    · rw [if_neg k0, if_neg k2, if_neg k1] at hc
      cases hc
theorem l_withdraw (hi : Inv I J) (a : Int32) : Law (fun m => dd_L_withdraw 0 a 220 m) (dd_X12_withdraw 200 a) Int32.toInt64 I J x := by
  refine Law_of (cd := cd0) (q_withdraw hi cd0 rfl a) (fun w I1 J1 x1 h => ?_) (fun k c I1 J1 x1 h hc => ?_)
  · show dd_L_withdraw 0 a 220 (S0, I, J, x) = _
    unfold dd_L_withdraw
    rw [c_rc, ob_s, h, ob_s]
    dsimp only
    rw [s_218, ob_s]
  · show dd_L_withdraw 0 a 220 (S0, I, J, x) = _
    unfold dd_L_withdraw
    rw [c_rc, ob_s, h, ob_s]
    dsimp only
    unfold cd0 at hc
    by_cases k0 : k = 0
    · rw [if_pos k0] at hc ⊢
      cases hc; rfl
    · rw [if_neg k0] at hc
      cases hc
theorem l_stop (hi : Inv I J) (a : Int32) : Law (fun m => dd_L_stop 0 a 220 m) (dd_X12_stop 200 a) Int32.toInt64 I J x := by
  refine Law_of (cd := cd0) (q_stop hi cd0 rfl a) (fun w I1 J1 x1 h => ?_) (fun k c I1 J1 x1 h hc => ?_)
  · show dd_L_stop 0 a 220 (S0, I, J, x) = _
    unfold dd_L_stop
    rw [c_rc, ob_s, h, ob_s]
    dsimp only
    rw [s_218, ob_s]
  · show dd_L_stop 0 a 220 (S0, I, J, x) = _
    unfold dd_L_stop
    rw [c_rc, ob_s, h, ob_s]
    dsimp only
    unfold cd0 at hc
    by_cases k0 : k = 0
    · rw [if_pos k0] at hc ⊢
      cases hc; rfl
    · rw [if_neg k0] at hc
      cases hc
theorem l_evict (hi : Inv I J) (a : Int32) : Law (fun m => dd_L_evict 0 a 220 m) (dd_X12_evict 200 a) Int32.toInt64 I J x := by
  refine Law_of (cd := cd01) (q_evict hi cd01 rfl rfl a) (fun w I1 J1 x1 h => ?_) (fun k c I1 J1 x1 h hc => ?_)
  · show dd_L_evict 0 a 220 (S0, I, J, x) = _
    unfold dd_L_evict
    rw [c_rc, ob_s, h, ob_s]
    dsimp only
    rw [s_218, ob_s]
  · show dd_L_evict 0 a 220 (S0, I, J, x) = _
    unfold dd_L_evict
    rw [c_rc, ob_s, h, ob_s]
    dsimp only
    unfold cd01 at hc
    by_cases k0 : k = 0
    · rw [if_pos k0] at hc ⊢
      cases hc; rfl
    by_cases k1 : k = 1
    · rw [if_neg k0, if_pos k1] at hc ⊢
      cases hc; rfl
    · rw [if_neg k0, if_neg k1] at hc
      cases hc
theorem l_migrate (hi : Inv I J) (a b2 : Int32) : Law (fun m => dd_L_migrate 0 a b2 220 m) (dd_X12_migrate 200 a b2) Int32.toInt64 I J x := by
  refine Law_of (cd := cd01) (q_migrate hi cd01 rfl rfl a b2) (fun w I1 J1 x1 h => ?_) (fun k c I1 J1 x1 h hc => ?_)
  · show dd_L_migrate 0 a b2 220 (S0, I, J, x) = _
    unfold dd_L_migrate
    rw [c_rc, ob_s, h, ob_s]
    dsimp only
    rw [s_218, ob_s]
  · show dd_L_migrate 0 a b2 220 (S0, I, J, x) = _
    unfold dd_L_migrate
    rw [c_rc, ob_s, h, ob_s]
    dsimp only
    unfold cd01 at hc
    by_cases k0 : k = 0
    · rw [if_pos k0] at hc ⊢
      cases hc; rfl
    by_cases k1 : k = 1
    · rw [if_neg k0, if_pos k1] at hc ⊢
      cases hc; rfl
    · rw [if_neg k0, if_neg k1] at hc
      cases hc
theorem l_drain (hi : Inv I J) (a : Int32) : Law (fun m => dd_L_drain 0 a 220 m) (dd_X12_drain 200 a) Int32.toInt64 I J x := by
  refine Law_of (cd := cd01) (q_drain hi cd01 rfl rfl a) (fun w I1 J1 x1 h => ?_) (fun k c I1 J1 x1 h hc => ?_)
  · show dd_L_drain 0 a 220 (S0, I, J, x) = _
    unfold dd_L_drain
    rw [c_rc, ob_s, h, ob_s]
    dsimp only
    rw [s_218, ob_s]
  · show dd_L_drain 0 a 220 (S0, I, J, x) = _
    unfold dd_L_drain
    rw [c_rc, ob_s, h, ob_s]
    dsimp only
    unfold cd01 at hc
    by_cases k0 : k = 0
    · rw [if_pos k0] at hc ⊢
      cases hc; rfl
    by_cases k1 : k = 1
    · rw [if_neg k0, if_pos k1] at hc ⊢
      cases hc; rfl
    · rw [if_neg k0, if_neg k1] at hc
      cases hc
theorem l_saveSnapshot (hi : Inv I J) (a : Int32) : Law (fun m => dd_L_saveSnapshot 0 a 220 m) (dd_X12_saveSnapshot 200 a) bj I J x := by
  refine Law_of (cd := cd0) (q_save hi cd0 rfl a) (fun w I1 J1 x1 h => ?_) (fun k c I1 J1 x1 h hc => ?_)
  · show dd_L_saveSnapshot 0 a 220 (S0, I, J, x) = _
    unfold dd_L_saveSnapshot
    rw [c_rc, ob_s, h, ob_s]
    dsimp only
    unfold bj
    by_cases z : w = 0
    · rw [if_pos z, if_pos z, bb_L_saveSnapshot_15, s_218, ob_s]
    · rw [if_neg z, if_neg z, bb_L_saveSnapshot_15, s_218, ob_s]
  · show dd_L_saveSnapshot 0 a 220 (S0, I, J, x) = _
    unfold dd_L_saveSnapshot
    rw [c_rc, ob_s, h, ob_s]
    dsimp only
    unfold cd0 at hc
    by_cases k0 : k = 0
    · rw [if_pos k0] at hc ⊢
      cases hc; rfl
    · rw [if_neg k0] at hc
      cases hc
theorem l_restoreSnapshot (hi : Inv I J) (a : Int32) : Law (fun m => dd_L_restoreSnapshot 0 a 220 m) (dd_X12_restoreSnapshot 200 a) Int32.toInt64 I J x := by
  refine Law_of (cd := cd01) (q_restore hi cd01 rfl rfl a) (fun w I1 J1 x1 h => ?_) (fun k c I1 J1 x1 h hc => ?_)
  · show dd_L_restoreSnapshot 0 a 220 (S0, I, J, x) = _
    unfold dd_L_restoreSnapshot
    rw [c_rc, ob_s, h, ob_s]
    dsimp only
    rw [s_218, ob_s]
  · show dd_L_restoreSnapshot 0 a 220 (S0, I, J, x) = _
    unfold dd_L_restoreSnapshot
    rw [c_rc, ob_s, h, ob_s]
    dsimp only
    unfold cd01 at hc
    by_cases k0 : k = 0
    · rw [if_pos k0] at hc ⊢
      cases hc; rfl
    by_cases k1 : k = 1
    · rw [if_neg k0, if_pos k1] at hc ⊢
      cases hc; rfl
    · rw [if_neg k0, if_neg k1] at hc
      cases hc
end LW
