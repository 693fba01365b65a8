/-! ===== parse: both readers over one text ===== -/
section PA
variable {I I' I0 I1 I2 I3 I4 M M' M0 M1 M2 Z : Nat → Nat → Int32} {J J' J1 J2 J3 J4 : Nat → Nat → Int64} {x x' : Nat} {NH NY NE NR N s u tp : Nat} {f g : Nat → Int64} {T : Nat → Int32} {H S : Nat → Nat → Int64} {b : Nat → Bool}
/-- what the class's reading leaves, from the call's beginning -/
def FC (I I1 : Nat → Nat → Int32) : Prop := (∀ r, r = 0 ∨ r = 2 ∨ 18 ≤ r → I1 r = I r) ∧ I1 1 1 = 0 ∧ clI I1 4
def FM (Z M : Nat → Nat → Int32) : Prop := (∀ r, r < 200 ∨ 209 ≤ r → M r = Z r) ∧ low Z M ∧ M 200 0 = 0 ∧ M 200 10 = 0 ∧ M 200 29 = Z 200 29
theorem low_BM (h : low Z M0) (k : BM M0 M) : low Z M := by
  obtain ⟨_, _, d1, d2, d3, d4, d5, d6, d7⟩ := k
  obtain ⟨e1, e2, e3, e4, e5, e6, e7⟩ := h
  exact ⟨fun k hk => (d1 k hk).trans (e1 k hk), fun k hk => (d2 k hk).trans (e2 k hk), fun k hk => (d3 k hk).trans (e3 k hk), fun k hk => (d4 k hk).trans (e4 k hk), fun k hk => (d5 k hk).trans (e5 k hk), d6.trans e6, fun k hk => (d7 k hk).trans (e7 k hk)⟩
theorem L_parse {n : Nat} (hC : clI I 4) (hN : N ≤ n) (hn : n ≤ 800) (hR : rgT (I 2) N) : ∃ c I1, dd_X7_read 1 (nI N) (S0, I, J, x) = some (c, (S0, I1, J, x)) ∧ FC I I1 ∧ (c = 0 → ∃ m NY, m ≤ 800 ∧ I1 15 1 = nI m ∧ NY ≤ 6 ∧ I1 7 3 = nI NY) ∧
    ∀ (Z : Nat → Nat → Int32) (J' : Nat → Nat → Int64) (x' : Nat), Z 200 10 = nI n → (∀ k, k < N → Z 209 k = I 2 k) → ∃ M1, FM Z M1 ∧ I1 1 4 = M1 200 17 ∧ ((c = 0 ∧ dd_X12_parse 200 (nI N) (S0, Z, J', x') = bb_X12_parse_110 200 1 (S0, M1, J', x') ∧ DRF I1 M1) ∨ (c ≠ 0 ∧ dd_X12_parse 200 (nI N) (S0, Z, J', x') = some (c, (S0, M1, J', x')))) := by
  obtain ⟨Ib, Is, a1, a2, a3, a4, a5, a6, a7, a8, a9⟩ := c_start (I := I) (J := J) (x := x) (n := n) hC (show N ≤ 800 by omega)
  have main : ∀ (Z : Nat → Nat → Int32) (J' : Nat → Nat → Int64) (x' : Nat), Z 200 10 = nI n → (∀ k, k < N → Z 209 k = I 2 k) → ∃ c I1 M1, dd_X7_read 1 (nI N) (S0, I, J, x) = some (c, (S0, I1, J, x)) ∧ FC I I1 ∧ FM Z M1 ∧ I1 1 4 = M1 200 17 ∧ ((c = 0 ∧ dd_X12_parse 200 (nI N) (S0, Z, J', x') = bb_X12_parse_110 200 1 (S0, M1, J', x') ∧ DRF I1 M1) ∨ (c ≠ 0 ∧ dd_X12_parse 200 (nI N) (S0, Z, J', x') = some (c, (S0, M1, J', x')))) := by
    intro Z J' x' h10 hT
    obtain ⟨Mb, Ms, b1, b2, b3, b4, b5, b6, b7, b8, b9, b10, b11, b12⟩ := m_start (J := J') (x := x') hN hn h10 hR hT
    have fc : ∀ I1, BC Ib I1 → FC I I1 := fun I1 k => ⟨fun r hr => by rw [k.1 r (by omega), a8 r (by omega)], by rw [k.2.1 1 (by omega)]; exact a9, k.2.2.2⟩
    have fm : ∀ M1, BM Mb M1 → FM Z M1 := fun M1 k => ⟨fun r hr => by rw [k.1 r hr, b8 r hr], low_BM b9 k, by rw [k.2.1 0 (by omega)]; exact b10, by rw [k.2.1 10 (by omega)]; exact b11, by rw [k.2.1 29 (by omega)]; exact b12⟩
    rcases L_text (J := J) (x := x) (J' := J') (x' := x') (T := I 2) (N := N) (I0 := Ib) (M0 := Mb) N 0 ab_fu ab_fu 0 Is Ms (by omega) (ab_fu_big (by omega)) (ab_fu_big (by omega)) (by omega) ⟨a2, b2, b4, a3, b3, a4, a5, b5⟩ (DRF_0 a7 b7 a6 b6) with ⟨I1, M1, p', c1, c2, c3, c4⟩ | ⟨I1, M1, c, c0, c1, c2, c3, c4, c5⟩
    · exact ⟨0, I1, M1, a1.trans c1, fc I1 c3.2.2.2.1, fm M1 c3.2.2.2.2.1, by rw [c3.2.2.2.2.2.1, c3.2.2.2.2.2.2.2], Or.inl ⟨rfl, b1.trans c2, c4⟩⟩
    · exact ⟨c, I1, M1, a1.trans c1, fc I1 c4, fm M1 c5, c3, Or.inr ⟨c0, b1.trans c2⟩⟩
  obtain ⟨c, I1, M0, e1, e2, e3, e4, e5⟩ := main (fun r k => if r = 209 then I 2 k else nI n) J x (if_neg (by omega)) (fun k _ => if_pos rfl)
  refine ⟨c, I1, e1, e2, fun h0 => ?_, fun Z J' x' h10 hT => ?_⟩
  · rcases e5 with ⟨_, _, NH, NY, NE, NR, s, d1, d2, d3, d4, d5, ⟨m, m8, d6⟩, _⟩ | ⟨q, _⟩
    · exact ⟨m, NY, m8, d6.1, d2.1, d2.2.1⟩
    · exact absurd h0 q
  · obtain ⟨c', I1', M1, k1, k2, k3, k4, k5⟩ := main Z J' x' h10 hT
    have q := Option.some.inj (e1.symm.trans k1)
    have qc : c = c' := congrArg Prod.fst q
    have qI : I1 = I1' := congrArg (fun z => z.2.2.1) q
    subst qc; subst qI
    exact ⟨M1, k3, k4, k5⟩
/-- behind a parse that fails -/
theorem Inv_fail (hi : Inv I J) (hc : FC I I1) (hm : FM I1 M1) (h3 : I1 1 4 = M1 200 17) (hJ : ∀ r, r ≠ 220 → J' r = J r) : Inv M1 J' := by
  obtain ⟨NH, NY, NE, NR, f, u, tp, H, b, S, w, c, m, rd⟩ := hi
  obtain ⟨c1, c2, c3⟩ := hc
  obtain ⟨m1, m2, m3, m4, m5⟩ := hm
  have off : ∀ r, (18 ≤ r ∧ r < 200) ∨ 209 ≤ r → M1 r = I r := fun r hr => by rw [m1 r (by omega), c1 r (by omega)]
  have lo : low I M1 := by
    have q := m2
    unfold low at q ⊢
    rw [c1 202 (by omega), c1 203 (by omega), c1 204 (by omega), c1 205 (by omega), c1 206 (by omega), c1 207 (by omega), c1 208 (by omega)] at q
    exact q
  have cl3 : clI M1 4 := by
    have q := c3
    unfold clI tI at q ⊢
    rw [m1 (4 + 1) (by omega), m1 (4 + 3) (by omega), m1 (4 + 5) (by omega), m1 (4 + 7) (by omega), m1 (4 + 9) (by omega)]
    exact q
  refine ⟨NH, NY, NE, NR, f, u, tp, H, b, S, W0_low w lo (fun r h1 h2 => off r (by omega)), InvC_low c w.1.2.1 w.1.2.2.1 (fun r h1 h2 => off r (by omega)) cl3 lo (fun r hr => hJ r (by omega)), InvM_cl m (by rw [m5, c1 200 (by omega)]) (off 219 (by omega)) (hJ _ (by omega)) (hJ _ (by omega)) (hJ _ (by omega)), ⟨?_, ?_⟩, 0, by omega, ?_, m4, fun k hk => by omega, ?_⟩
  · rw [off 213 (by omega)]; exact rd.1.1
  · rw [off 214 (by omega)]; exact rd.1.2
  · rw [m1 1 (by omega)]; exact c2
  · rw [m1 1 (by omega)]; exact h3
end PA
