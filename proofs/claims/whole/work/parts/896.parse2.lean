/-! ===== a text that is good ===== -/
section PB2
variable {I I' I0 I1 I2 I3 I4 M M' M0 M1 M2 M3 Z : Nat → Nat → Int32} {J J' J1 J2 J3 J4 : Nat → Nat → Int64} {x x' : Nat} {NH NY NE NR N s u tp : Nat} {f g : Nat → Int64} {T : Nat → Int32} {H S : Nat → Nat → Int64} {b : Nat → Bool}
/-- what the class holds of its new cloud -/
def CC (I1 I2 : Nat → Nat → Int32) (n : Nat) : Prop := clI I2 18 ∧ (I2 19 3 = I1 5 3 ∧ I2 21 3 = I1 7 3 ∧ I2 23 3 = I1 9 3 ∧ I2 25 3 = I1 11 3) ∧ (∀ b, b < 16 → I2 20 b = I1 6 b) ∧ (∀ b, b < 18 → I2 22 b = I1 8 b) ∧ (∀ b, b < 6 → I2 24 b = I1 10 b) ∧ (∀ b, b < 48 → I2 26 b = I1 12 b) ∧ (∀ b, b < 3 → I2 28 b = I1 14 b) ∧ I2 29 1 = nI n ∧ ∀ k, k < n → I2 30 k = I1 16 k
/-- the drafts have become the clouds -/
theorem W0_new {n : Nat} (d : DRF I1 M1) (hn : I1 15 1 = nI n) (n8 : n ≤ 800) (hC : CC I1 I2 n) (hl : lft M1 M2) (h1 : ∀ r, 18 ≤ r → r < 31 → M2 r = I2 r) : ∃ NH NY NE NR, W0 M2 NH NY NE NR ∧ I1 7 3 = nI NY := by
  obtain ⟨NH, NY, NE, NR, s, ⟨h8, a1, a2, a3, a4⟩, ⟨y6, b1, b2, b3⟩, ⟨e6, c1, c2, c3⟩, ⟨v8, d1, d2, d3⟩, ⟨s0, s1, s2, s3, s4, s5, s6⟩, ⟨n', n8', x1, x2, x3, x4⟩, _⟩ := d
  obtain ⟨k0, ⟨k1, k2, k3, k4⟩, k5, k6, k7, k8, k9, k10, k11⟩ := hC
  obtain ⟨l0, l1, l2, l3, l4, l5, l6, l7⟩ := hl
  have en : n' = n := (nI_eq (by omega) (by omega)).mp (x1.symm.trans hn)
  subst en
  have H : ∀ h, h < 8 → ∀ w, w < 2 → mh M2 h w = M1 203 (16 + (2 * h + w)) := fun h hh w hw => l2 (2 * h + w) (by omega)
  have Y : ∀ h, h < 6 → ∀ w, w < 3 → mt M2 h w = M1 204 (18 + (3 * h + w)) := fun h hh w hw => l3 (3 * h + w) (by omega)
  have V : ∀ h, h < 8 → ∀ w, w < 6 → mr M2 h w = M1 206 (48 + (6 * h + w)) := fun h hh w hw => l5 (6 * h + w) (by omega)
  refine ⟨NH, NY, NE, NR, ⟨⟨⟨?_, ?_, ?_, ?_⟩, h8, y6, e6, v8⟩, ⟨fun k hk => ?_, fun k hk => ?_, fun k hk => ?_, fun k hk => ?_, ?_, ?_, ?_⟩, ⟨?_, ⟨?_, ?_, ?_, ?_⟩, fun k hk w hw => ?_, fun k q1 q2 => ?_, fun k hk w hw => ?_, fun k hk => ?_, fun k hk w hw => ?_, ?_, ?_, ?_⟩, n', n8', ?_, ?_, fun k hk => ?_, ?_⟩, b1⟩
  · rw [l1 0 (by omega)]; exact a2
  · rw [l1 1 (by omega)]; exact b2
  · rw [l1 2 (by omega)]; exact c2
  · rw [l1 3 (by omega)]; exact d2
  · rw [H k (by omega) 0 (by omega), H k (by omega) 1 (by omega)]; exact ⟨(a3 k hk).1.2, (a3 k hk).2.2⟩
  · rw [Y k (by omega) 0 (by omega), Y k (by omega) 1 (by omega), Y k (by omega) 2 (by omega)]; exact ⟨(b3 k hk).1.2, (b3 k hk).2.1.2, (b3 k hk).2.2.2⟩
  · rw [l4 k (by omega)]; exact (c3 k hk).2
  · obtain ⟨⟨e, he, q1⟩, ⟨y, hy, q2⟩, q3, q4, q5, q6⟩ := (d3 k hk).2
    have z1 : re M2 k = e := by unfold re; rw [V k (by omega) 0 (by omega), q1, nI_clamp (by omega)]
    have z2 : ry M2 k = y := by unfold ry; rw [V k (by omega) 1 (by omega), q2, nI_clamp (by omega)]
    rw [z1, z2, V k (by omega) 0 (by omega), V k (by omega) 1 (by omega), V k (by omega) 2 (by omega), V k (by omega) 3 (by omega), V k (by omega) 4 (by omega), V k (by omega) 5 (by omega)]
    exact ⟨⟨q1, he⟩, ⟨q2, hy⟩, q3, q4, q5, q6⟩
  · rw [l1 4 (by omega)]; exact s4
  · rw [l1 5 (by omega)]; exact s5
  · rw [l1 6 (by omega)]; exact s6
  · unfold clI tI at k0 ⊢
    rw [h1 (18 + 1) (by omega) (by omega), h1 (18 + 3) (by omega) (by omega), h1 (18 + 5) (by omega) (by omega), h1 (18 + 7) (by omega) (by omega), h1 (18 + 9) (by omega) (by omega)]
    exact k0
  · rw [h1 19 (by omega) (by omega), k1]; exact a1
  · rw [h1 21 (by omega) (by omega), k2]; exact b1
  · rw [h1 23 (by omega) (by omega), k3]; exact c1
  · rw [h1 25 (by omega) (by omega), k4]; exact d1
  · show M2 (18 + 1 + 1) (k * 2 + w) = _
    rw [h1 (18 + 1 + 1) (by omega) (by omega), H k (by omega) w hw, k5 (k * 2 + w) (by omega)]
    match w, hw with
    | 0, _ => exact (a3 k hk).1.1
    | 1, _ => exact (a3 k hk).2.1
  · show M2 (18 + 1 + 1) (k * 2 + 0) = _
    rw [h1 (18 + 1 + 1) (by omega) (by omega), k5 (k * 2 + 0) (by omega)]
    exact a4 k q1 q2
  · show M2 (18 + 3 + 1) (k * 3 + w) = _
    rw [h1 (18 + 3 + 1) (by omega) (by omega), Y k (by omega) w hw, k6 (k * 3 + w) (by omega)]
    match w, hw with
    | 0, _ => exact (b3 k hk).1.1
    | 1, _ => exact (b3 k hk).2.1.1
    | 2, _ => exact (b3 k hk).2.2.1
  · show M2 (18 + 5 + 1) (k * 1 + 0) = _
    rw [h1 (18 + 5 + 1) (by omega) (by omega), l4 k (by omega), k7 (k * 1 + 0) (by omega)]
    exact (c3 k hk).1
  · show M2 (18 + 7 + 1) (k * 6 + w) = _
    rw [h1 (18 + 7 + 1) (by omega) (by omega), V k (by omega) w hw, k8 (k * 6 + w) (by omega)]
    exact (d3 k hk).1 w hw
  · show M2 (18 + 9 + 1) (0 * 3 + 0) = _
    rw [h1 (18 + 9 + 1) (by omega) (by omega), l1 4 (by omega), k9 (0 * 3 + 0) (by omega)]; exact s1
  · show M2 (18 + 9 + 1) (0 * 3 + 1) = _
    rw [h1 (18 + 9 + 1) (by omega) (by omega), l1 5 (by omega), k9 (0 * 3 + 1) (by omega)]; exact s2
  · show M2 (18 + 9 + 1) (0 * 3 + 2) = _
    rw [h1 (18 + 9 + 1) (by omega) (by omega), l1 6 (by omega), k9 (0 * 3 + 2) (by omega)]; exact s3
  · rw [h1 29 (by omega) (by omega)]; exact k10
  · rw [l6 0 (by omega)]; exact x2
  · have ed : dpt (M2 208) k = dpt (fun k => M1 208 (820 + k)) k := dpt_congr (fun j hj => l7 j (by omega))
    rw [h1 30 (by omega) (by omega), k11 k hk, l7 k (by omega), ed]; exact x3 k hk
  · rw [dpt_congr (b := fun k => M1 208 (820 + k)) (fun j hj => l7 j (by omega))]; exact x4
end PB2
