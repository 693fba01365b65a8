/-! ===== what the reference's drafts do not touch ===== -/
section LO
variable {I I' I0 I1 I2 I3 I4 M M' M0 M1 M2 Z : Nat → Nat → Int32} {J J' J1 J2 J3 J4 : Nat → Nat → Int64} {x x' : Nat} {NH NY NE NR N s u tp : Nat} {f g : Nat → Int64} {T : Nat → Int32} {H S : Nat → Nat → Int64} {b : Nat → Bool}
/-- the lower halves are the same -/
def low (I I' : Nat → Nat → Int32) : Prop := (∀ k, k < 7 → I' 202 k = I 202 k) ∧ (∀ k, k < 16 → I' 203 k = I 203 k) ∧ (∀ k, k < 18 → I' 204 k = I 204 k) ∧ (∀ k, k < 6 → I' 205 k = I 205 k) ∧ (∀ k, k < 48 → I' 206 k = I 206 k) ∧ I' 207 0 = I 207 0 ∧ ∀ k, k < 820 → I' 208 k = I 208 k
theorem low_mh (h : low I I') {k w : Nat} (hk : k < 8) (hw : w < 2) : mh I' k w = mh I k w := h.2.1 _ (by omega)
theorem low_mt (h : low I I') {k w : Nat} (hk : k < 6) (hw : w < 3) : mt I' k w = mt I k w := h.2.2.1 _ (by omega)
theorem low_mr (h : low I I') {k w : Nat} (hk : k < 8) (hw : w < 6) : mr I' k w = mr I k w := h.2.2.2.2.1 _ (by omega)
theorem low_lod (hl : low I I') (hw : wfs NH NY NE f) (h6 : NY ≤ 6) {h w : Nat} (hw2 : w < 2) : lod I' f h w = lod I f h w := by
  unfold lod
  refine sm_congr (fun i hi => ?_)
  by_cases c : rn f i = true ∧ ho f i = h
  · have := ty_lt hw hi c.1
    rw [if_pos c, if_pos c, low_mt hl (by omega) (by omega)]
  · rw [if_neg c, if_neg c]
theorem W0_low (h : W0 I NH NY NE NR) (hl : low I I') (h1 : ∀ r, 18 ≤ r → r < 31 → I' r = I r) : W0 I' NH NY NE NR := by
  obtain ⟨a, c, e, n, n8, q1, q2, q3, q4⟩ := h
  have h8 := a.2.1
  have h6 := a.2.2.1
  have h6e := a.2.2.2.1
  have h8r := a.2.2.2.2
  refine ⟨⟨⟨?_, ?_, ?_, ?_⟩, a.2⟩, ⟨fun k hk => ?_, fun k hk => ?_, fun k hk => ?_, fun k hk => ?_, ?_, ?_, ?_⟩, ?_, n, n8, ?_, ?_, fun k hk => ?_, ?_⟩
  · rw [hl.1 0 (by omega)]; exact a.1.1
  · rw [hl.1 1 (by omega)]; exact a.1.2.1
  · rw [hl.1 2 (by omega)]; exact a.1.2.2.1
  · rw [hl.1 3 (by omega)]; exact a.1.2.2.2
  · rw [low_mh hl (by omega) (by omega), low_mh hl (by omega) (by omega)]; exact c.1 k hk
  · rw [low_mt hl (by omega) (by omega), low_mt hl (by omega) (by omega), low_mt hl (by omega) (by omega)]; exact c.2.1 k hk
  · rw [hl.2.2.2.1 k (by omega)]; exact c.2.2.1 k hk
  · have er : re I' k = re I k := by unfold re; rw [low_mr hl (by omega) (by omega)]
    have ey : ry I' k = ry I k := by unfold ry; rw [low_mr hl (by omega) (by omega)]
    rw [er, ey, low_mr hl (by omega) (by omega), low_mr hl (by omega) (by omega), low_mr hl (by omega) (by omega), low_mr hl (by omega) (by omega), low_mr hl (by omega) (by omega), low_mr hl (by omega) (by omega)]
    exact c.2.2.2.1 k hk
  · rw [hl.1 4 (by omega)]; exact c.2.2.2.2.1
  · rw [hl.1 5 (by omega)]; exact c.2.2.2.2.2.1
  · rw [hl.1 6 (by omega)]; exact c.2.2.2.2.2.2
  · obtain ⟨e1, e2, e3, e4, e5, e6, e7, e8⟩ := e
    refine ⟨?_, ?_, fun k hk w hw => ?_, fun k h1' h2' => ?_, fun k hk w hw => ?_, fun k hk => ?_, fun k hk w hw => ?_, ?_⟩
    · unfold clI tI at e1 ⊢
      rw [h1 (18 + 1) (by omega) (by omega), h1 (18 + 3) (by omega) (by omega), h1 (18 + 5) (by omega) (by omega), h1 (18 + 7) (by omega) (by omega), h1 (18 + 9) (by omega) (by omega)]
      exact e1
    · rw [h1 19 (by omega) (by omega), h1 21 (by omega) (by omega), h1 23 (by omega) (by omega), h1 25 (by omega) (by omega)]; exact e2
    · show I' (18 + 1 + 1) (k * 2 + w) = _
      rw [h1 (18 + 1 + 1) (by omega) (by omega), low_mh hl (by omega) hw]; exact e3 k hk w hw
    · show I' (18 + 1 + 1) (k * 2 + 0) = 0
      rw [h1 (18 + 1 + 1) (by omega) (by omega)]; exact e4 k h1' h2'
    · show I' (18 + 3 + 1) (k * 3 + w) = _
      rw [h1 (18 + 3 + 1) (by omega) (by omega), low_mt hl (by omega) hw]; exact e5 k hk w hw
    · show I' (18 + 5 + 1) (k * 1 + 0) = _
      rw [h1 (18 + 5 + 1) (by omega) (by omega), hl.2.2.2.1 k (by omega)]; exact e6 k hk
    · show I' (18 + 7 + 1) (k * 6 + w) = _
      rw [h1 (18 + 7 + 1) (by omega) (by omega), low_mr hl (by omega) hw]; exact e7 k hk w hw
    · show I' (18 + 9 + 1) (0 * 3 + 0) = _ ∧ I' (18 + 9 + 1) (0 * 3 + 1) = _ ∧ I' (18 + 9 + 1) (0 * 3 + 2) = _
      rw [h1 (18 + 9 + 1) (by omega) (by omega), hl.1 4 (by omega), hl.1 5 (by omega), hl.1 6 (by omega)]; exact e8
  · rw [h1 29 (by omega) (by omega)]; exact q1
  · rw [hl.2.2.2.2.2.1]; exact q2
  · have ed : dpt (I' 208) k = dpt (I 208) k := dpt_congr (fun j hj => hl.2.2.2.2.2.2 j (by omega))
    rw [h1 30 (by omega) (by omega), hl.2.2.2.2.2.2 k (by omega), ed]; exact q3 k hk
  · rw [dpt_congr (b := I 208) (fun j hj => hl.2.2.2.2.2.2 j (by omega))]; exact q4
theorem RS_low (hr : RS I J NH NY NE s f) (h8 : NH ≤ 8) (h6 : NY ≤ 6) (h1 : sam s (s + 10) I I') (hl : low I I') (h3 : J' (s + 9) = J (s + 9)) : RS I' J' NH NY NE s f := by
  obtain ⟨⟨a0, a1, a2, a3, a4, a5, a6, a7⟩, ⟨w1, w2, w3, w4, w5, w6, w7⟩, p, e⟩ := hr
  refine ⟨⟨?_, ?_, ?_, fun i hi hrn => ?_, fun y hy => ?_, fun h hh w hw => ?_, ?_, fun r hr w hw => ?_⟩, ⟨w1, w2, w3, w4, w5, w6, fun h hh w hw => ?_⟩, fun k hk => by rw [h3]; exact p k hk, e⟩
  · unfold siI tI at a0 ⊢
    rw [h1 (s + 1) (by omega) (by omega), h1 (s + 3) (by omega) (by omega), h1 (s + 5) (by omega) (by omega), h1 (s + 7) (by omega) (by omega)]
    exact a0
  · rw [h1 s (by omega) (by omega)]; exact a1
  · rw [h1 s (by omega) (by omega)]; exact a2
  · have q := a3 i hi hrn
    unfold gi at q ⊢
    rw [h1 (s + 1 + 1) (by omega) (by omega)]; exact q
  · have q := a4 y hy
    unfold gp at q ⊢
    rw [h1 (s + 5 + 1) (by omega) (by omega)]; exact q
  · have q := a5 h hh w hw
    unfold gl at q ⊢
    rw [h1 (s + 7 + 1) (by omega) (by omega), low_lod hl w3 h6 hw]; exact q
  · rw [h1 (s + 3) (by omega) (by omega)]; exact a6
  · have q := a7 r hr w hw
    unfold gq at q ⊢
    rw [h1 (s + 3 + 1) (by omega) (by omega)]; exact q
  · have q := w7 h hh w hw
    unfold fre at q ⊢
    rw [low_lod hl w3 h6 hw, low_mh hl (by omega) hw]; exact q
theorem InvC_low (h : InvC I J NH NY NE f u tp H b S) (h8 : NH ≤ 8) (h6 : NY ≤ 6) (h1 : ∀ r, 18 ≤ r → r < 200 → I' r = I r) (hd : clI I' 4) (hl : low I I') (h3 : ∀ r, r < 200 → J' r = J r) : InvC I' J' NH NY NE f u tp H b S := by
  obtain ⟨a, ⟨c1, c2, c3, c4, c5, c6⟩, ⟨e1, e2, e3, e4, e5⟩, g1, g2⟩ := h
  refine ⟨RS_low a h8 h6 (fun r q1 q2 => h1 r (by omega) (by omega)) hl (h3 _ (by omega)), ⟨?_, fun k hk => ?_, ?_, ?_, ?_, hd⟩, ⟨e1, e2, ?_, ?_, fun k hk => RS_low (e5 k hk) h8 h6 (fun r q1 q2 => h1 r (by omega) (by omega)) hl (h3 _ (by omega))⟩, ?_, fun t ht hb => RS_low (g2 t ht hb) h8 h6 (fun r q1 q2 => h1 r (by omega) (by omega)) hl (h3 _ (by omega))⟩
  · unfold siI tI at c1 ⊢
    rw [h1 (42 + 1) (by omega) (by omega), h1 (42 + 3) (by omega) (by omega), h1 (42 + 5) (by omega) (by omega), h1 (42 + 7) (by omega) (by omega)]
    exact c1
  · have q := c2 k hk
    unfold siI tI at q ⊢
    rw [h1 (55 + 10 * k + 1) (by omega) (by omega), h1 (55 + 10 * k + 3) (by omega) (by omega), h1 (55 + 10 * k + 5) (by omega) (by omega), h1 (55 + 10 * k + 7) (by omega) (by omega)]
    exact q
  · unfold bI tI at c3 ⊢
    rw [h1 176 (by omega) (by omega), h1 178 (by omega) (by omega)]
    exact c3
  · unfold tI at c4 ⊢
    rw [h1 183 (by omega) (by omega)]
    exact c4
  · unfold tP tI at c5 ⊢
    rw [h1 198 (by omega) (by omega), h1 193 (by omega) (by omega)]
    exact c5
  · rw [h1 52 (by omega) (by omega)]; exact e3
  · rw [h1 52 (by omega) (by omega)]; exact e4
  · rw [h1 52 (by omega) (by omega)]; exact g1
theorem so_ite {c : Prop} [Decidable c] {a b : Int32} (ha : a.toInt8.toInt32.toInt8.toInt32 = a) (hb : b.toInt8.toInt32.toInt8.toInt32 = b) : (if c then a else b).toInt8.toInt32.toInt8.toInt32 = (if c then a else b) := by
  split
  · exact ha
  · exact hb
theorem so28_8 (l : Int32) : (so28 l).toInt8.toInt32.toInt8.toInt32 = so28 l := by
  unfold so28
  exact so_ite rfl (so_ite rfl (so_ite rfl (so_ite rfl (so_ite rfl (so_ite rfl (so_ite rfl (so_ite rfl (so_ite rfl rfl))))))))
theorem sor_8 (l : Int32) : (sor l).toInt8.toInt32.toInt8.toInt32 = sor l := by
  unfold sor so14
  exact so_ite (so_ite (so28_8 l) (so_ite (so28_8 l) rfl)) (so_ite (so_ite (so28_8 l) (so_ite (so28_8 l) rfl)) rfl)
/-- the sorts of the bytes are worked out -/
theorem c_sorts (hN : N ≤ 800) : ∀ (q fu k : Nat) (I : Nat → Nat → Int32), k + q = N → q < fu → I 1 6 = nI N → (∀ j, j < k → I 3 j = sor (I 2 j)) → ∃ Ic, bb_X7_read_51 fu 1 (nI k) (S0, I, J, x) = bb_X7_read_99 1 (S0, Ic, J, x) ∧ (∀ r, r ≠ 3 → Ic r = I r) ∧ ∀ j, j < N → Ic 3 j = sor (I 2 j) := by
  intro q
  induction q with
  | zero =>
    intro fu k I e1 e2 h6 hs
    obtain ⟨fu, rfl⟩ : ∃ z, fu = z + 1 := ⟨fu - 1, by omega⟩
    refine ⟨I, ?_, fun _ _ => rfl, fun j hj => hs j (by omega)⟩
    rw [bb_X7_read_51, r_f5, ob_s, h6, if_pos (by rw [li_le (by omega) (by omega)]; omega)]
  | succ q ih =>
    intro fu k I e1 e2 h6 hs
    obtain ⟨fu, rfl⟩ : ∃ z, fu = z + 1 := ⟨fu - 1, by omega⟩
    obtain ⟨Ic, c1, c2, c3⟩ := ih fu (k + 1) (ab_u I 3 k (sor (I 2 k))) (by omega) (by omega) (by rw [u_r (by omega)]; exact h6) (fun j hj => by
      rw [u_r (show 2 ≠ 3 by omega)]
      by_cases e : j = k
      · rw [e, u_e]
      · rw [u_k e]; exact hs j (by omega))
    refine ⟨Ic, ?_, fun r hr => by rw [c2 r hr, u_r hr], fun j hj => by rw [c3 j hj, u_r (show 2 ≠ 3 by omega)]⟩
    rw [bb_X7_read_51, r_f5, ob_s, h6, if_neg (by rw [li_le (by omega) (by omega)]; omega), r_f0, ob_s, op_len sh_2, ob_s, if_neg (by rw [li_le (by omega) (by omega)]; omega), r_sr, ob_s, op_len sh_3, ob_s, if_neg (by rw [li_le (by omega) (by omega)]; omega), ob_s, ob_s, op_ld sh_2 rfl (show k < 800 by omega) (by omega), ob_s, sor_is, ob_s, sor_8, op_st _ sh_3 rfl (show k < 800 by omega) (by omega), ob_s, nI_1]
    exact c1
/-- the class's reading begins -/
theorem c_start {n : Nat} (hC : clI I 4) (hN : N ≤ 800) : ∃ Ib I1, dd_X7_read 1 (nI N) (S0, I, J, x) = bb_X7_read_107 ab_fu 1 1 0 (S0, I1, J, x) ∧ tkC I1 (I 2) N 0 ∧ BC Ib I1 ∧ I1 1 4 = -1 ∧ I1 1 5 = 0 ∧ I1 1 10 = 0 ∧ dr0 I1 ∧ (∀ r, r = 0 ∨ r = 2 ∨ r = 4 ∨ 17 ≤ r → Ib r = I r) ∧ Ib 1 1 = 0 := by
  obtain ⟨Ia, a1, a2, a3⟩ := c_draft0 (I := I) (J := J) (x := x) hC
  have em : (if (0 : Int32) < (if nI 800 < nI N then nI 800 else nI N) then (if nI 800 < nI N then nI 800 else nI N) else 0) = nI N := by
    rw [if_neg (show ¬ nI 800 < nI N by rw [li_lt (by omega) (by omega)]; omega)]
    by_cases q : N = 0
    · rw [q]; rfl
    · rw [if_pos (by rw [li_0, li_lt (by omega) (by omega)]; omega)]
  have b2 : ∀ r, r ≠ 1 → ab_u (ab_u (ab_u (ab_u (ab_u (ab_u Ia 1 4 (-1)) 1 5 0) 1 6 (nI N)) 1 1 0) 1 7 0) 1 10 0 r = Ia r := fun r hr => by rw [u_r hr, u_r hr, u_r hr, u_r hr, u_r hr, u_r hr]
  have b5 : ab_u (ab_u (ab_u (ab_u (ab_u (ab_u Ia 1 4 (-1)) 1 5 0) 1 6 (nI N)) 1 1 0) 1 7 0) 1 10 0 1 6 = nI N := by rw [u_k (by omega), u_k (by omega), u_k (by omega), u_e]
  have b6 : ab_u (ab_u (ab_u (ab_u (ab_u (ab_u Ia 1 4 (-1)) 1 5 0) 1 6 (nI N)) 1 1 0) 1 7 0) 1 10 0 1 7 = nI 0 := by rw [u_k (by omega), u_e]; rfl
  have b3 : ab_u (ab_u (ab_u (ab_u (ab_u (ab_u Ia 1 4 (-1)) 1 5 0) 1 6 (nI N)) 1 1 0) 1 7 0) 1 10 0 1 4 = -1 := by rw [u_k (by omega), u_k (by omega), u_k (by omega), u_k (by omega), u_k (by omega), u_e]
  have b4 : ab_u (ab_u (ab_u (ab_u (ab_u (ab_u Ia 1 4 (-1)) 1 5 0) 1 6 (nI N)) 1 1 0) 1 7 0) 1 10 0 1 5 = 0 := by rw [u_k (by omega), u_k (by omega), u_k (by omega), u_k (by omega), u_e]
  have b9 : ab_u (ab_u (ab_u (ab_u (ab_u (ab_u Ia 1 4 (-1)) 1 5 0) 1 6 (nI N)) 1 1 0) 1 7 0) 1 10 0 1 10 = 0 := u_e
  have b1 : ab_u (ab_u (ab_u (ab_u (ab_u (ab_u Ia 1 4 (-1)) 1 5 0) 1 6 (nI N)) 1 1 0) 1 7 0) 1 10 0 1 1 = 0 := by rw [u_k (by omega), u_k (by omega), u_e]
  have run0 : dd_X7_read 1 (nI N) (S0, I, J, x) = bb_X7_read_51 ab_fu 1 0 (S0, ab_u (ab_u (ab_u (ab_u (ab_u (ab_u Ia 1 4 (-1)) 1 5 0) 1 6 (nI N)) 1 1 0) 1 7 0) 1 10 0, J, x) := by
    unfold dd_X7_read
    rw [r_s2, ob_s, rc_X1 (show ok_X1 4 from rfl), ob_s, a1, ob_s, pI_X7_4 okR, ob_s, pI_X7_5 okR, ob_s, r_f0, ob_s, op_len sh_2, ob_s, em, pI_X7_6 okR, ob_s, pI_X7_1 okR, ob_s, r_p6, ob_s, pI_X7_10 okR, ob_s]
  generalize ab_u (ab_u (ab_u (ab_u (ab_u (ab_u Ia 1 4 (-1)) 1 5 0) 1 6 (nI N)) 1 1 0) 1 7 0) 1 10 0 = I9 at b1 b2 b3 b4 b5 b6 b9 run0
  obtain ⟨Ib, s1, s2, s3⟩ := c_sorts (J := J) (x := x) hN N ab_fu 0 I9 (by omega) (ab_fu_big (by omega)) b5 (fun j hj => by omega)
  have run : dd_X7_read 1 (nI N) (S0, I, J, x) = (dd_X7_advance 1 (S0, Ib, J, x)).bind fun q11 => bb_X7_read_107 ab_fu 1 1 0 q11.2 := by
    refine run0.trans (s1.trans ?_)
    unfold bb_X7_read_99
    rw [r_rc, ob_s]
  rw [← s2 1 (by omega)] at b1 b3 b4 b5 b6 b9
  have b2 : ∀ r, r ≠ 1 → r ≠ 3 → Ib r = Ia r := fun r h1 h3 => (s2 r h3).trans (b2 r h1)
  have e2 : Ib 2 = I 2 := (b2 2 (by omega) (by omega)).trans (a2 2 (by omega))
  have tx : txC Ib (I 2) N := ⟨hN, b5, fun k hk => ⟨by rw [e2], by rw [s3 k hk, ← s2 2 (by omega), e2]⟩⟩
  obtain ⟨I1, c1, c2, c3⟩ := c_adv (J := J) (x := x) tx (Nat.zero_le _) b6
  have d0 : dr0 I1 := by
    have q := a3
    have e : ∀ r, r ≠ 1 → r ≠ 3 → I1 r = Ia r := fun r hr h3 => (c2.1 r hr).trans (b2 r hr h3)
    unfold dr0 clI tI at q ⊢
    rw [e (4 + 1) (by omega) (by omega), e (4 + 3) (by omega) (by omega), e (4 + 5) (by omega) (by omega), e (4 + 7) (by omega) (by omega), e (4 + 9) (by omega) (by omega), e 6 (by omega) (by omega), e 14 (by omega) (by omega), e 15 (by omega) (by omega), e 16 (by omega) (by omega)]
    exact q
  have bc : BC Ib Ib := by
    refine ⟨fun _ _ => rfl, fun _ _ => rfl, rfl, ?_⟩
    have q := a3.1
    unfold clI tI at q ⊢
    rw [b2 (4 + 1) (by omega) (by omega), b2 (4 + 3) (by omega) (by omega), b2 (4 + 5) (by omega) (by omega), b2 (4 + 7) (by omega) (by omega), b2 (4 + 9) (by omega) (by omega)]
    exact q
  refine ⟨Ib, I1, ?_, c3, BC_ad bc c2, by rw [c2.2 4 (by omega) (by omega) (by omega)]; exact b3, by rw [c2.2 5 (by omega) (by omega) (by omega)]; exact b4, by rw [c2.2 10 (by omega) (by omega) (by omega)]; exact b9, d0, fun r hr => by rw [b2 r (by omega) (by omega), a2 r (by omega)], b1⟩
  rw [run, c1, ob_s]
/-- the reference's reading begins -/
theorem m_start {n : Nat} (hN : N ≤ n) (hn : n ≤ 800) (h10 : Z 200 10 = nI n) (hR : rgT T N) (hT : ∀ k, k < N → Z 209 k = T k) : ∃ Mb M1, dd_X12_parse 200 (nI N) (S0, Z, J, x) = bb_X12_parse_74 ab_fu 200 1 (S0, M1, J, x) ∧ tkM M1 T N 0 ∧ BM Mb M1 ∧ M1 200 16 = 0 ∧ M1 200 17 = -1 ∧ M1 200 19 = 0 ∧ dm0 M1 ∧ (∀ r, r < 200 ∨ 209 ≤ r → Mb r = Z r) ∧ low Z Mb ∧ Mb 200 0 = 0 ∧ Mb 200 10 = 0 ∧ Mb 200 29 = Z 200 29 := by
  have e10 : th Z 0 200 10 = nI n := by rw [th_offk _ (by omega)]; exact h10
  have wt : wi (nI N).toInt64 0 (nI n).toInt64 = true := by
    unfold wi
    have a1 : ¬ (nI N).toInt64 < 0 := by
      show ¬ (nI N).toInt64 < (0 : Int32).toInt64
      rw [j_lt]; exact li_pos (by omega)
    have a2 : ¬ (nI n).toInt64 < (nI N).toInt64 := by
      rw [j_lt, li_lt (by omega) (by omega)]; omega
    simp [a1, a2]
  have b2 : ∀ r, r ≠ 200 → ab_u (ab_u (ab_u (ab_u (ab_u (ab_u (th Z 0) 200 11 (nI N)) 200 10 0) 200 13 0) 200 16 0) 200 17 (-1)) 200 19 0 r = Z r := fun r hr => by rw [u_r hr, u_r hr, u_r hr, u_r hr, u_r hr, u_r hr, th_off _ hr]
  have c11 : ab_u (ab_u (ab_u (ab_u (ab_u (ab_u (th Z 0) 200 11 (nI N)) 200 10 0) 200 13 0) 200 16 0) 200 17 (-1)) 200 19 0 200 11 = nI N := by rw [u_k (by omega), u_k (by omega), u_k (by omega), u_k (by omega), u_k (by omega), u_e]
  have c10 : ab_u (ab_u (ab_u (ab_u (ab_u (ab_u (th Z 0) 200 11 (nI N)) 200 10 0) 200 13 0) 200 16 0) 200 17 (-1)) 200 19 0 200 10 = 0 := by rw [u_k (by omega), u_k (by omega), u_k (by omega), u_k (by omega), u_e]
  have c13 : ab_u (ab_u (ab_u (ab_u (ab_u (ab_u (th Z 0) 200 11 (nI N)) 200 10 0) 200 13 0) 200 16 0) 200 17 (-1)) 200 19 0 200 13 = nI 0 := by rw [u_k (by omega), u_k (by omega), u_k (by omega), u_e]; rfl
  have c16 : ab_u (ab_u (ab_u (ab_u (ab_u (ab_u (th Z 0) 200 11 (nI N)) 200 10 0) 200 13 0) 200 16 0) 200 17 (-1)) 200 19 0 200 16 = 0 := by rw [u_k (by omega), u_k (by omega), u_e]
  have c17 : ab_u (ab_u (ab_u (ab_u (ab_u (ab_u (th Z 0) 200 11 (nI N)) 200 10 0) 200 13 0) 200 16 0) 200 17 (-1)) 200 19 0 200 17 = -1 := by rw [u_k (by omega), u_e]
  have c19 : ab_u (ab_u (ab_u (ab_u (ab_u (ab_u (th Z 0) 200 11 (nI N)) 200 10 0) 200 13 0) 200 16 0) 200 17 (-1)) 200 19 0 200 19 = 0 := u_e
  have c0 : ab_u (ab_u (ab_u (ab_u (ab_u (ab_u (th Z 0) 200 11 (nI N)) 200 10 0) 200 13 0) 200 16 0) 200 17 (-1)) 200 19 0 200 0 = 0 := by rw [u_k (by omega), u_k (by omega), u_k (by omega), u_k (by omega), u_k (by omega), u_k (by omega), th_at]
  have c29 : ab_u (ab_u (ab_u (ab_u (ab_u (ab_u (th Z 0) 200 11 (nI N)) 200 10 0) 200 13 0) 200 16 0) 200 17 (-1)) 200 19 0 200 29 = Z 200 29 := by rw [u_k (by omega), u_k (by omega), u_k (by omega), u_k (by omega), u_k (by omega), u_k (by omega), th_offk _ (by omega)]
  have run : dd_X12_parse 200 (nI N) (S0, Z, J, x) = (dd_X12_clearDraft 200 (S0, ab_u (ab_u (ab_u (ab_u (ab_u (ab_u (th Z 0) 200 11 (nI N)) 200 10 0) 200 13 0) 200 16 0) 200 17 (-1)) 200 19 0, J, x)).bind fun q8 => (ab_rc q8.2 12 200).bind fun _ => (dd_X12_advance 200 q8.2).bind fun q9 => bb_X12_parse_74 ab_fu 200 1 q9.2 := by
    unfold dd_X12_parse
    rw [m_P0, ob_s, m_F10, ob_s, e10, m_within, ob_s, wt]
    dsimp only
    rw [if_neg (show ¬ (if true = true then (1 : Int32) else 0) = 0 from n10), bb_X12_parse_25, m_rc, ob_s, m_thr0 1 (by decide), ob_s, if_pos rfl, pI_X12_11 okM, ob_s, pI_X12_10 okM, ob_s, m_P13, ob_s, pI_X12_16 okM, ob_s, pI_X12_17 okM, ob_s, pI_X12_19 okM, ob_s, m_rc, ob_s]
  generalize ab_u (ab_u (ab_u (ab_u (ab_u (ab_u (th Z 0) 200 11 (nI N)) 200 10 0) 200 13 0) 200 16 0) 200 17 (-1)) 200 19 0 = Za at b2 c0 c10 c11 c13 c16 c17 c19 c29 run
  obtain ⟨Mb, d1, d2, d3, d4, d5, d6⟩ := m_clear0 (M := Za) (J := J) (x := x)
  have e198 : ∀ k, Mb 200 k = Za 200 k := fun k => by rw [d2 200 (by omega) (by omega) (by omega)]
  have tx : txM Mb T N := ⟨by omega, hR, by rw [e198]; exact c11, fun k hk => by rw [d2 209 (by omega) (by omega) (by omega), b2 209 (by omega)]; exact hT k hk⟩
  obtain ⟨M1, f1, f2, f3⟩ := m_adv (J := J) (x := x) tx (Nat.zero_le _) (by rw [e198]; exact c13)
  have dm : dm0 M1 := by
    have q := d6
    unfold dm0 at q ⊢
    rw [f2.1 202 (by omega), f2.1 207 (by omega), f2.1 208 (by omega)]
    exact q
  have bm : BM Mb Mb := ⟨fun _ _ => rfl, fun _ _ => rfl, fun _ _ => rfl, fun _ _ => rfl, fun _ _ => rfl, fun _ _ => rfl, fun _ _ => rfl, rfl, fun _ _ => rfl⟩
  refine ⟨Mb, M1, ?_, f3, BM_ad bm f2, by rw [f2.2 16 (by omega), e198]; exact c16, by rw [f2.2 17 (by omega), e198]; exact c17, by rw [f2.2 19 (by omega), e198]; exact c19, dm, fun r hr => by rw [d2 r (by omega) (by omega) (by omega), b2 r (by omega)], ⟨fun k hk => ?_, fun k hk => ?_, fun k hk => ?_, fun k hk => ?_, fun k hk => ?_, ?_, fun k hk => ?_⟩, by rw [e198]; exact c0, by rw [e198]; exact c10, by rw [e198]; exact c29⟩
  · rw [run, d1, ob_s, m_rc, ob_s, f1, ob_s]
  · rw [d3 k hk, b2 202 (by omega)]
  · rw [d2 203 (by omega) (by omega) (by omega), b2 203 (by omega)]
  · rw [d2 204 (by omega) (by omega) (by omega), b2 204 (by omega)]
  · rw [d2 205 (by omega) (by omega) (by omega), b2 205 (by omega)]
  · rw [d2 206 (by omega) (by omega) (by omega), b2 206 (by omega)]
  · rw [d4, b2 207 (by omega)]
  · rw [d5 k (by omega), b2 208 (by omega)]
end LO
