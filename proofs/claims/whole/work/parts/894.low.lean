/-! ===== what the reference's drafts do not touch ===== -/
section LO
variable {I I' I0 I1 I2 I3 I4 M M' M0 M1 M2 Z : Nat → Nat → Int32} {J J' J1 J2 J3 J4 : Nat → Nat → Int64} {x x' : Nat} {NH NY NE NR N s u tp : Nat} {f g : Nat → Int64} {T : Nat → Int32} {H S : Nat → Nat → Int64} {b : Nat → Bool}
/-- the lower halves are the same -/
def low (I I' : Nat → Nat → Int32) : Prop := (∀ k, k < 7 → I' 200 k = I 200 k) ∧ (∀ k, k < 16 → I' 201 k = I 201 k) ∧ (∀ k, k < 18 → I' 202 k = I 202 k) ∧ (∀ k, k < 6 → I' 203 k = I 203 k) ∧ (∀ k, k < 48 → I' 204 k = I 204 k) ∧ I' 205 0 = I 205 0 ∧ ∀ k, k < 820 → I' 206 k = I 206 k
theorem low_mh (h : low I I') {k w : Nat} (hk : k < 8) (hw : w < 2) : mh I' k w = mh I k w := h.2.1 _ (by omega)
theorem low_mt (h : low I I') {k w : Nat} (hk : k < 6) (hw : w < 3) : mt I' k w = mt I k w := h.2.2.1 _ (by omega)
theorem low_mr (h : low I I') {k w : Nat} (hk : k < 8) (hw : w < 6) : mr I' k w = mr I k w := h.2.2.2.2.1 _ (by omega)
theorem low_lod (hl : low I I') (hw : wfs NH NY NE f) (h6 : NY ≤ 6) {h w : Nat} (hw2 : w < 2) : lod I' f h w = lod I f h w := by
  unfold lod
  refine sm_congr (fun i hi => ?_)
  by_cases c : rn f i = true ∧ ho f i = h
  · have := ty_lt hw hi c.1
    rw [if_pos c, if_pos c, low_mt hl (by omega) (by omega)]
  · rw [if_neg c, if_neg c]
theorem W0_low (h : W0 I NH NY NE NR) (hl : low I I') (h1 : ∀ r, 17 ≤ r → r < 30 → I' r = I r) : W0 I' NH NY NE NR := by
  obtain ⟨a, c, e, n, n8, q1, q2, q3, q4⟩ := h
  have h8 := a.2.1
  have h6 := a.2.2.1
  have h6e := a.2.2.2.1
  have h8r := a.2.2.2.2
  refine ⟨⟨⟨?_, ?_, ?_, ?_⟩, a.2⟩, ⟨fun k hk => ?_, fun k hk => ?_, fun k hk => ?_, fun k hk => ?_, ?_, ?_, ?_⟩, ?_, n, n8, ?_, ?_, fun k hk => ?_, ?_⟩
  · rw [hl.1 0 (by omega)]; exact a.1.1
  · rw [hl.1 1 (by omega)]; exact a.1.2.1
  · rw [hl.1 2 (by omega)]; exact a.1.2.2.1
  · rw [hl.1 3 (by omega)]; exact a.1.2.2.2
  · rw [low_mh hl (by omega) (by omega), low_mh hl (by omega) (by omega)]; exact c.1 k hk
  · rw [low_mt hl (by omega) (by omega), low_mt hl (by omega) (by omega), low_mt hl (by omega) (by omega)]; exact c.2.1 k hk
  · rw [hl.2.2.2.1 k (by omega)]; exact c.2.2.1 k hk
  · have er : re I' k = re I k := by unfold re; rw [low_mr hl (by omega) (by omega)]
    have ey : ry I' k = ry I k := by unfold ry; rw [low_mr hl (by omega) (by omega)]
    rw [er, ey, low_mr hl (by omega) (by omega), low_mr hl (by omega) (by omega), low_mr hl (by omega) (by omega), low_mr hl (by omega) (by omega), low_mr hl (by omega) (by omega), low_mr hl (by omega) (by omega)]
    exact c.2.2.2.1 k hk
  · rw [hl.1 4 (by omega)]; exact c.2.2.2.2.1
  · rw [hl.1 5 (by omega)]; exact c.2.2.2.2.2.1
  · rw [hl.1 6 (by omega)]; exact c.2.2.2.2.2.2
  · obtain ⟨e1, e2, e3, e4, e5, e6, e7, e8⟩ := e
    refine ⟨?_, ?_, fun k hk w hw => ?_, fun k h1' h2' => ?_, fun k hk w hw => ?_, fun k hk => ?_, fun k hk w hw => ?_, ?_⟩
    · unfold clI tI at e1 ⊢
      rw [h1 (17 + 1) (by omega) (by omega), h1 (17 + 3) (by omega) (by omega), h1 (17 + 5) (by omega) (by omega), h1 (17 + 7) (by omega) (by omega), h1 (17 + 9) (by omega) (by omega)]
      exact e1
    · rw [h1 18 (by omega) (by omega), h1 20 (by omega) (by omega), h1 22 (by omega) (by omega), h1 24 (by omega) (by omega)]; exact e2
    · show I' (17 + 1 + 1) (k * 2 + w) = _
      rw [h1 (17 + 1 + 1) (by omega) (by omega), low_mh hl (by omega) hw]; exact e3 k hk w hw
    · show I' (17 + 1 + 1) (k * 2 + 0) = 0
      rw [h1 (17 + 1 + 1) (by omega) (by omega)]; exact e4 k h1' h2'
    · show I' (17 + 3 + 1) (k * 3 + w) = _
      rw [h1 (17 + 3 + 1) (by omega) (by omega), low_mt hl (by omega) hw]; exact e5 k hk w hw
    · show I' (17 + 5 + 1) (k * 1 + 0) = _
      rw [h1 (17 + 5 + 1) (by omega) (by omega), hl.2.2.2.1 k (by omega)]; exact e6 k hk
    · show I' (17 + 7 + 1) (k * 6 + w) = _
      rw [h1 (17 + 7 + 1) (by omega) (by omega), low_mr hl (by omega) hw]; exact e7 k hk w hw
    · show I' (17 + 9 + 1) (0 * 3 + 0) = _ ∧ I' (17 + 9 + 1) (0 * 3 + 1) = _ ∧ I' (17 + 9 + 1) (0 * 3 + 2) = _
      rw [h1 (17 + 9 + 1) (by omega) (by omega), hl.1 4 (by omega), hl.1 5 (by omega), hl.1 6 (by omega)]; exact e8
  · rw [h1 28 (by omega) (by omega)]; exact q1
  · rw [hl.2.2.2.2.2.1]; exact q2
  · have ed : dpt (I' 206) k = dpt (I 206) k := dpt_congr (fun j hj => hl.2.2.2.2.2.2 j (by omega))
    rw [h1 29 (by omega) (by omega), hl.2.2.2.2.2.2 k (by omega), ed]; exact q3 k hk
  · rw [dpt_congr (b := I 206) (fun j hj => hl.2.2.2.2.2.2 j (by omega))]; exact q4
theorem RS_low (hr : RS I J NH NY NE s f) (h8 : NH ≤ 8) (h6 : NY ≤ 6) (h1 : sam s (s + 10) I I') (hl : low I I') (h3 : J' (s + 9) = J (s + 9)) : RS I' J' NH NY NE s f := by
  obtain ⟨⟨a0, a1, a2, a3, a4, a5, a6, a7⟩, ⟨w1, w2, w3, w4, w5, w6, w7⟩, p, e⟩ := hr
  refine ⟨⟨?_, ?_, ?_, fun i hi hrn => ?_, fun y hy => ?_, fun h hh w hw => ?_, ?_, fun r hr w hw => ?_⟩, ⟨w1, w2, w3, w4, w5, w6, fun h hh w hw => ?_⟩, fun k hk => by rw [h3]; exact p k hk, e⟩
  · unfold siI tI at a0 ⊢
    rw [h1 (s + 1) (by omega) (by omega), h1 (s + 3) (by omega) (by omega), h1 (s + 5) (by omega) (by omega), h1 (s + 7) (by omega) (by omega)]
    exact a0
  · rw [h1 s (by omega) (by omega)]; exact a1
  · rw [h1 s (by omega) (by omega)]; exact a2
  · have q := a3 i hi hrn
    unfold gi at q ⊢
    rw [h1 (s + 1 + 1) (by omega) (by omega)]; exact q
  · have q := a4 y hy
    unfold gp at q ⊢
    rw [h1 (s + 5 + 1) (by omega) (by omega)]; exact q
  · have q := a5 h hh w hw
    unfold gl at q ⊢
    rw [h1 (s + 7 + 1) (by omega) (by omega), low_lod hl w3 h6 hw]; exact q
  · rw [h1 (s + 3) (by omega) (by omega)]; exact a6
  · have q := a7 r hr w hw
    unfold gq at q ⊢
    rw [h1 (s + 3 + 1) (by omega) (by omega)]; exact q
  · have q := w7 h hh w hw
    unfold fre at q ⊢
    rw [low_lod hl w3 h6 hw, low_mh hl (by omega) hw]; exact q
theorem InvC_low (h : InvC I J NH NY NE f u tp H b S) (h8 : NH ≤ 8) (h6 : NY ≤ 6) (h1 : ∀ r, 17 ≤ r → r < 198 → I' r = I r) (hd : clI I' 3) (hl : low I I') (h3 : ∀ r, r < 198 → J' r = J r) : InvC I' J' NH NY NE f u tp H b S := by
  obtain ⟨a, ⟨c1, c2, c3, c4, c5, c6⟩, ⟨e1, e2, e3, e4, e5⟩, g1, g2⟩ := h
  refine ⟨RS_low a h8 h6 (fun r q1 q2 => h1 r (by omega) (by omega)) hl (h3 _ (by omega)), ⟨?_, fun k hk => ?_, ?_, ?_, ?_, hd⟩, ⟨e1, e2, ?_, ?_, fun k hk => RS_low (e5 k hk) h8 h6 (fun r q1 q2 => h1 r (by omega) (by omega)) hl (h3 _ (by omega))⟩, ?_, fun t ht hb => RS_low (g2 t ht hb) h8 h6 (fun r q1 q2 => h1 r (by omega) (by omega)) hl (h3 _ (by omega))⟩
  · unfold siI tI at c1 ⊢
    rw [h1 (41 + 1) (by omega) (by omega), h1 (41 + 3) (by omega) (by omega), h1 (41 + 5) (by omega) (by omega), h1 (41 + 7) (by omega) (by omega)]
    exact c1
  · have q := c2 k hk
    unfold siI tI at q ⊢
    rw [h1 (54 + 10 * k + 1) (by omega) (by omega), h1 (54 + 10 * k + 3) (by omega) (by omega), h1 (54 + 10 * k + 5) (by omega) (by omega), h1 (54 + 10 * k + 7) (by omega) (by omega)]
    exact q
  · unfold bI tI at c3 ⊢
    rw [h1 175 (by omega) (by omega), h1 177 (by omega) (by omega)]
    exact c3
  · unfold tI at c4 ⊢
    rw [h1 182 (by omega) (by omega)]
    exact c4
  · unfold tI at c5 ⊢
    rw [h1 196 (by omega) (by omega)]
    exact c5
  · rw [h1 51 (by omega) (by omega)]; exact e3
  · rw [h1 51 (by omega) (by omega)]; exact e4
  · rw [h1 51 (by omega) (by omega)]; exact g1
/-- the class's reading begins -/
theorem c_start {n : Nat} (hC : clI I 3) (hN : N ≤ 800) : ∃ Ib I1, dd_X7_read 1 (nI N) (S0, I, J, x) = bb_X7_read_57 ab_fu 1 1 0 (S0, I1, J, x) ∧ tkC I1 (I 2) N 0 ∧ BC Ib I1 ∧ I1 1 3 = -1 ∧ I1 1 4 = 0 ∧ I1 1 9 = 0 ∧ dr0 I1 ∧ (∀ r, r = 0 ∨ r = 2 ∨ r = 3 ∨ 16 ≤ r → Ib r = I r) ∧ Ib 1 1 = 0 := by
  obtain ⟨Ia, a1, a2, a3⟩ := c_draft0 (I := I) (J := J) (x := x) hC
  have em : (if (0 : Int32) < (if nI 800 < nI N then nI 800 else nI N) then (if nI 800 < nI N then nI 800 else nI N) else 0) = nI N := by
    rw [if_neg (show ¬ nI 800 < nI N by rw [li_lt (by omega) (by omega)]; omega)]
    by_cases q : N = 0
    · rw [q]; rfl
    · rw [if_pos (by rw [li_0, li_lt (by omega) (by omega)]; omega)]
  have b2 : ∀ r, r ≠ 1 → ab_u (ab_u (ab_u (ab_u (ab_u (ab_u Ia 1 3 (-1)) 1 4 0) 1 5 (nI N)) 1 1 0) 1 6 0) 1 9 0 r = Ia r := fun r hr => by rw [u_r hr, u_r hr, u_r hr, u_r hr, u_r hr, u_r hr]
  have b5 : ab_u (ab_u (ab_u (ab_u (ab_u (ab_u Ia 1 3 (-1)) 1 4 0) 1 5 (nI N)) 1 1 0) 1 6 0) 1 9 0 1 5 = nI N := by rw [u_k (by omega), u_k (by omega), u_k (by omega), u_e]
  have b6 : ab_u (ab_u (ab_u (ab_u (ab_u (ab_u Ia 1 3 (-1)) 1 4 0) 1 5 (nI N)) 1 1 0) 1 6 0) 1 9 0 1 6 = nI 0 := by rw [u_k (by omega), u_e]; rfl
  have b3 : ab_u (ab_u (ab_u (ab_u (ab_u (ab_u Ia 1 3 (-1)) 1 4 0) 1 5 (nI N)) 1 1 0) 1 6 0) 1 9 0 1 3 = -1 := by rw [u_k (by omega), u_k (by omega), u_k (by omega), u_k (by omega), u_k (by omega), u_e]
  have b4 : ab_u (ab_u (ab_u (ab_u (ab_u (ab_u Ia 1 3 (-1)) 1 4 0) 1 5 (nI N)) 1 1 0) 1 6 0) 1 9 0 1 4 = 0 := by rw [u_k (by omega), u_k (by omega), u_k (by omega), u_k (by omega), u_e]
  have b9 : ab_u (ab_u (ab_u (ab_u (ab_u (ab_u Ia 1 3 (-1)) 1 4 0) 1 5 (nI N)) 1 1 0) 1 6 0) 1 9 0 1 9 = 0 := u_e
  have b1 : ab_u (ab_u (ab_u (ab_u (ab_u (ab_u Ia 1 3 (-1)) 1 4 0) 1 5 (nI N)) 1 1 0) 1 6 0) 1 9 0 1 1 = 0 := by rw [u_k (by omega), u_k (by omega), u_e]
  have run : dd_X7_read 1 (nI N) (S0, I, J, x) = (dd_X7_advance 1 (S0, ab_u (ab_u (ab_u (ab_u (ab_u (ab_u Ia 1 3 (-1)) 1 4 0) 1 5 (nI N)) 1 1 0) 1 6 0) 1 9 0, J, x)).bind fun q11 => bb_X7_read_57 ab_fu 1 1 0 q11.2 := by
    unfold dd_X7_read
    rw [r_s2, ob_s, rc_X1 (show ok_X1 3 from rfl), ob_s, a1, ob_s, pI_X7_3 okR, ob_s, pI_X7_4 okR, ob_s, r_f0, ob_s, op_len sh_2, ob_s, em, pI_X7_5 okR, ob_s, pI_X7_1 okR, ob_s, r_p6, ob_s, pI_X7_9 okR, ob_s, r_rc, ob_s]
  generalize ab_u (ab_u (ab_u (ab_u (ab_u (ab_u Ia 1 3 (-1)) 1 4 0) 1 5 (nI N)) 1 1 0) 1 6 0) 1 9 0 = Ib at b1 b2 b3 b4 b5 b6 b9 run
  have tx : txC Ib (I 2) N := ⟨hN, b5, fun k hk => by rw [b2 2 (by omega), a2 2 (by omega)]⟩
  obtain ⟨I1, c1, c2, c3⟩ := c_adv (J := J) (x := x) tx (Nat.zero_le _) b6
  have d0 : dr0 I1 := by
    have q := a3
    have e : ∀ r, r ≠ 1 → I1 r = Ia r := fun r hr => (c2.1 r hr).trans (b2 r hr)
    unfold dr0 clI tI at q ⊢
    rw [e (3 + 1) (by omega), e (3 + 3) (by omega), e (3 + 5) (by omega), e (3 + 7) (by omega), e (3 + 9) (by omega), e 5 (by omega), e 13 (by omega), e 14 (by omega), e 15 (by omega)]
    exact q
  have bc : BC Ib Ib := by
    refine ⟨fun _ _ => rfl, fun _ _ => rfl, rfl, ?_⟩
    have q := a3.1
    unfold clI tI at q ⊢
    rw [b2 (3 + 1) (by omega), b2 (3 + 3) (by omega), b2 (3 + 5) (by omega), b2 (3 + 7) (by omega), b2 (3 + 9) (by omega)]
    exact q
  refine ⟨Ib, I1, ?_, c3, BC_ad bc c2, by rw [c2.2 3 (by omega) (by omega) (by omega)]; exact b3, by rw [c2.2 4 (by omega) (by omega) (by omega)]; exact b4, by rw [c2.2 9 (by omega) (by omega) (by omega)]; exact b9, d0, fun r hr => by rw [b2 r (by omega), a2 r (by omega)], b1⟩
  rw [run, c1, ob_s]
/-- the reference's reading begins -/
theorem m_start {n : Nat} (hN : N ≤ n) (hn : n ≤ 800) (h10 : Z 198 10 = nI n) (hR : rgT T N) (hT : ∀ k, k < N → Z 207 k = T k) : ∃ Mb M1, dd_X12_parse 198 (nI N) (S0, Z, J, x) = bb_X12_parse_74 ab_fu 198 1 (S0, M1, J, x) ∧ tkM M1 T N 0 ∧ BM Mb M1 ∧ M1 198 16 = 0 ∧ M1 198 17 = -1 ∧ M1 198 19 = 0 ∧ dm0 M1 ∧ (∀ r, r < 198 ∨ 207 ≤ r → Mb r = Z r) ∧ low Z Mb ∧ Mb 198 0 = 0 ∧ Mb 198 10 = 0 ∧ Mb 198 29 = Z 198 29 := by
  have e10 : th Z 0 198 10 = nI n := by rw [th_offk _ (by omega)]; exact h10
  have wt : wi (nI N).toInt64 0 (nI n).toInt64 = true := by
    unfold wi
    have a1 : ¬ (nI N).toInt64 < 0 := by
      show ¬ (nI N).toInt64 < (0 : Int32).toInt64
      rw [j_lt]; exact li_pos (by omega)
    have a2 : ¬ (nI n).toInt64 < (nI N).toInt64 := by
      rw [j_lt, li_lt (by omega) (by omega)]; omega
    simp [a1, a2]
  have b2 : ∀ r, r ≠ 198 → ab_u (ab_u (ab_u (ab_u (ab_u (ab_u (th Z 0) 198 11 (nI N)) 198 10 0) 198 13 0) 198 16 0) 198 17 (-1)) 198 19 0 r = Z r := fun r hr => by rw [u_r hr, u_r hr, u_r hr, u_r hr, u_r hr, u_r hr, th_off _ hr]
  have c11 : ab_u (ab_u (ab_u (ab_u (ab_u (ab_u (th Z 0) 198 11 (nI N)) 198 10 0) 198 13 0) 198 16 0) 198 17 (-1)) 198 19 0 198 11 = nI N := by rw [u_k (by omega), u_k (by omega), u_k (by omega), u_k (by omega), u_k (by omega), u_e]
  have c10 : ab_u (ab_u (ab_u (ab_u (ab_u (ab_u (th Z 0) 198 11 (nI N)) 198 10 0) 198 13 0) 198 16 0) 198 17 (-1)) 198 19 0 198 10 = 0 := by rw [u_k (by omega), u_k (by omega), u_k (by omega), u_k (by omega), u_e]
  have c13 : ab_u (ab_u (ab_u (ab_u (ab_u (ab_u (th Z 0) 198 11 (nI N)) 198 10 0) 198 13 0) 198 16 0) 198 17 (-1)) 198 19 0 198 13 = nI 0 := by rw [u_k (by omega), u_k (by omega), u_k (by omega), u_e]; rfl
  have c16 : ab_u (ab_u (ab_u (ab_u (ab_u (ab_u (th Z 0) 198 11 (nI N)) 198 10 0) 198 13 0) 198 16 0) 198 17 (-1)) 198 19 0 198 16 = 0 := by rw [u_k (by omega), u_k (by omega), u_e]
  have c17 : ab_u (ab_u (ab_u (ab_u (ab_u (ab_u (th Z 0) 198 11 (nI N)) 198 10 0) 198 13 0) 198 16 0) 198 17 (-1)) 198 19 0 198 17 = -1 := by rw [u_k (by omega), u_e]
  have c19 : ab_u (ab_u (ab_u (ab_u (ab_u (ab_u (th Z 0) 198 11 (nI N)) 198 10 0) 198 13 0) 198 16 0) 198 17 (-1)) 198 19 0 198 19 = 0 := u_e
  have c0 : ab_u (ab_u (ab_u (ab_u (ab_u (ab_u (th Z 0) 198 11 (nI N)) 198 10 0) 198 13 0) 198 16 0) 198 17 (-1)) 198 19 0 198 0 = 0 := by rw [u_k (by omega), u_k (by omega), u_k (by omega), u_k (by omega), u_k (by omega), u_k (by omega), th_at]
  have c29 : ab_u (ab_u (ab_u (ab_u (ab_u (ab_u (th Z 0) 198 11 (nI N)) 198 10 0) 198 13 0) 198 16 0) 198 17 (-1)) 198 19 0 198 29 = Z 198 29 := by rw [u_k (by omega), u_k (by omega), u_k (by omega), u_k (by omega), u_k (by omega), u_k (by omega), th_offk _ (by omega)]
  have run : dd_X12_parse 198 (nI N) (S0, Z, J, x) = (dd_X12_clearDraft 198 (S0, ab_u (ab_u (ab_u (ab_u (ab_u (ab_u (th Z 0) 198 11 (nI N)) 198 10 0) 198 13 0) 198 16 0) 198 17 (-1)) 198 19 0, J, x)).bind fun q8 => (ab_rc q8.2 12 198).bind fun _ => (dd_X12_advance 198 q8.2).bind fun q9 => bb_X12_parse_74 ab_fu 198 1 q9.2 := by
    unfold dd_X12_parse
    rw [m_P0, ob_s, m_F10, ob_s, e10, m_within, ob_s, wt]
    dsimp only
    rw [if_neg (show ¬ (if true = true then (1 : Int32) else 0) = 0 from n10), bb_X12_parse_25, m_rc, ob_s, m_thr0 1 (by decide), ob_s, if_pos rfl, pI_X12_11 okM, ob_s, pI_X12_10 okM, ob_s, m_P13, ob_s, pI_X12_16 okM, ob_s, pI_X12_17 okM, ob_s, pI_X12_19 okM, ob_s, m_rc, ob_s]
  generalize ab_u (ab_u (ab_u (ab_u (ab_u (ab_u (th Z 0) 198 11 (nI N)) 198 10 0) 198 13 0) 198 16 0) 198 17 (-1)) 198 19 0 = Za at b2 c0 c10 c11 c13 c16 c17 c19 c29 run
  obtain ⟨Mb, d1, d2, d3, d4, d5, d6⟩ := m_clear0 (M := Za) (J := J) (x := x)
  have e198 : ∀ k, Mb 198 k = Za 198 k := fun k => by rw [d2 198 (by omega) (by omega) (by omega)]
  have tx : txM Mb T N := ⟨by omega, hR, by rw [e198]; exact c11, fun k hk => by rw [d2 207 (by omega) (by omega) (by omega), b2 207 (by omega)]; exact hT k hk⟩
  obtain ⟨M1, f1, f2, f3⟩ := m_adv (J := J) (x := x) tx (Nat.zero_le _) (by rw [e198]; exact c13)
  have dm : dm0 M1 := by
    have q := d6
    unfold dm0 at q ⊢
    rw [f2.1 200 (by omega), f2.1 205 (by omega), f2.1 206 (by omega)]
    exact q
  have bm : BM Mb Mb := ⟨fun _ _ => rfl, fun _ _ => rfl, fun _ _ => rfl, fun _ _ => rfl, fun _ _ => rfl, fun _ _ => rfl, fun _ _ => rfl, rfl, fun _ _ => rfl⟩
  refine ⟨Mb, M1, ?_, f3, BM_ad bm f2, by rw [f2.2 16 (by omega), e198]; exact c16, by rw [f2.2 17 (by omega), e198]; exact c17, by rw [f2.2 19 (by omega), e198]; exact c19, dm, fun r hr => by rw [d2 r (by omega) (by omega) (by omega), b2 r (by omega)], ⟨fun k hk => ?_, fun k hk => ?_, fun k hk => ?_, fun k hk => ?_, fun k hk => ?_, ?_, fun k hk => ?_⟩, by rw [e198]; exact c0, by rw [e198]; exact c10, by rw [e198]; exact c29⟩
  · rw [run, d1, ob_s, m_rc, ob_s, f1, ob_s]
  · rw [d3 k hk, b2 200 (by omega)]
  · rw [d2 201 (by omega) (by omega) (by omega), b2 201 (by omega)]
  · rw [d2 202 (by omega) (by omega) (by omega), b2 202 (by omega)]
  · rw [d2 203 (by omega) (by omega) (by omega), b2 203 (by omega)]
  · rw [d2 204 (by omega) (by omega) (by omega), b2 204 (by omega)]
  · rw [d4, b2 205 (by omega)]
  · rw [d5 k (by omega), b2 206 (by omega)]
end LO
