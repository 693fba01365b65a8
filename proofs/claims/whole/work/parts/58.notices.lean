/-! ===== an hour: notices ===== -/
section NO
variable {I : Nat → Nat → Int32} {J : Nat → Nat → Int64} {x : Nat} {NH NY NE NR s : Nat} {f g : Nat → Int64}
def spt (g : Nat → Int64) (j : Nat) : Int32 := (g (2 + ty g j)).toInt32
def noV (I : Nat → Nat → Int32) (g : Nat → Int64) (j : Nat) : Int32 := if mbd g j < spt g j then (if mnt g j = -1 then clk g + I 202 5 else mnt g j) else -1
def noS (I : Nat → Nat → Int32) (j : Nat) (g : Nat → Int64) : Nat → Int64 := if rn g j = true ∧ mbd g j ≠ -1 then fu g (14 + 6 * j + 4) (noV I g j).toInt64 else g
def noF (I : Nat → Nat → Int32) (f : Nat → Int64) : Nat → Int64 := itr (noS I) 0 12 f
theorem noS_t {j : Nat} (h : rn g j = true) (h2 : mbd g j ≠ -1) : noS I j g = fu g (14 + 6 * j + 4) (noV I g j).toInt64 := if_pos ⟨h, h2⟩
theorem noS_f {j : Nat} (h : rn g j = false) : noS I j g = g := if_neg (fun q => by rw [h] at q; cases q.1)
theorem noS_g {j : Nat} (h2 : mbd g j = -1) : noS I j g = g := if_neg (fun q => q.2 h2)
theorem fu_id {k : Nat} {v : Int64} (h : g k = v) : fu g k v = g := by
  funext j
  unfold fu
  by_cases e : j = k
  · rw [if_pos e, e, h]
  · rw [if_neg e]
/-- only notices differ -/
def ont (f g : Nat → Int64) : Prop := ∀ k, (∀ i, i < 12 → k ≠ 14 + 6 * i + 4) → g k = f k
theorem ont_vi (h : ont f g) {i w : Nat} (hi : i < 12) (hw : w < 6) (h4 : w ≠ 4) : vi g i w = vi f i w := h _ (fun j hj => by omega)
theorem ont_rn (h : ont f g) {i : Nat} (hi : i < 12) : rn g i = rn f i := by unfold rn; rw [ont_vi h hi (by omega) (by omega)]
theorem noS_ont {j : Nat} (hj : j < 12) : ont g (noS I j g) := by
  intro k hk
  unfold noS
  by_cases h : rn g j = true ∧ mbd g j ≠ -1
  · rw [if_pos h]; exact fu_n (hk j hj)
  · rw [if_neg h]
theorem noF_ont : ∀ k, k ≤ 12 → ont f (itr (noS I) 0 k f) := by
  intro k
  induction k with
  | zero => exact fun _ _ _ => rfl
  | succ k ih =>
    intro hk
    rw [itr_last, Nat.zero_add]
    exact fun a ha => (noS_ont (by omega) a ha).trans (ih (by omega) a ha)
theorem noS_wfs {j : Nat} (hj : j < 12) (hw : wfs NH NY NE g) : wfs NH NY NE (noS I j g) := by
  intro i hi hr
  have ho := noS_ont (I := I) (g := g) hj
  rw [ont_rn ho hi] at hr
  have q := hw i hi hr
  have h4 : isI (vi (noS I j g) i 4) := by
    unfold noS
    by_cases h : rn g j = true ∧ mbd g j ≠ -1
    · rw [if_pos h]
      by_cases e : i = j
      · have : vi (fu g (14 + 6 * j + 4) (noV I g j).toInt64) i 4 = (noV I g j).toInt64 := by rw [e]; exact fu_e
        rw [this]; unfold isI; rw [Int32.toInt32_toInt64]
      · have : vi (fu g (14 + 6 * j + 4) (noV I g j).toInt64) i 4 = vi g i 4 := fu_n (by omega)
        rw [this]; exact q.2.2.2.2.1
    · rw [if_neg h]; exact q.2.2.2.2.1
  unfold wfi at q ⊢
  rw [ont_vi (w := 0) ho hi (by omega) (by omega), ont_vi (w := 1) ho hi (by omega) (by omega), ont_vi (w := 2) ho hi (by omega) (by omega), ont_vi (w := 3) ho hi (by omega) (by omega), ont_vi (w := 5) ho hi (by omega) (by omega)]
  exact ⟨q.1, q.2.1, q.2.2.1, q.2.2.2.1, h4, q.2.2.2.2.2⟩
theorem noF_wfs (hw : wfs NH NY NE f) : ∀ k, k ≤ 12 → wfs NH NY NE (itr (noS I) 0 k f) := by
  intro k
  induction k with
  | zero => exact fun _ => hw
  | succ k ih =>
    intro hk
    rw [itr_last, Nat.zero_add]
    exact noS_wfs (by omega) (ih (by omega))
/-- a clock's number and a notice -/
theorem clk_add (hk : isn (g 0) 20000) (hh : isr (I 202 5) 0 48) : g 0 + (I 202 5).toInt64 = (clk g + I 202 5).toInt64 := by
  obtain ⟨n, e, _, hn⟩ := hh
  have hc : clk g = nI (nv (g 0)) := isn_32 hk
  have h2 := hk.2
  have e0 := hk.1
  rw [hc, e, nI_add]
  generalize nv (g 0) = N at e0 h2 ⊢
  rw [e0, nI_l (by omega), nI_l (by omega), nI_l (by omega)]
  exact lN_add _ _
theorem m_noS (hw : wfs NH NY NE g) (h6 : NY ≤ 6) (hk : isn (g 0) 20000) (hh : isr (I 202 5) 0 48) (hp : ∀ y, y < NY → isI (g (2 + y))) (n j : Nat) (hj : j < 12) : bb_X12_hour_134 (n + 1) 200 (nI j) (S0, I, jr J g, x) = bb_X12_hour_134 n 200 (nI j + 1) (S0, I, jr J (noS I j g), x) := by
  rw [bb_X12_hour_134, if_neg (li_12 hj), m_rc, ob_s]
  by_cases hr : rn g j = false
  · rw [m_runsF hj hr, ob_s, if_pos rfl, noS_f hr, bb_X12_hour_258]
  · have hr' : rn g j = true := by simpa using hr
    rw [m_runsT hj hr', ob_s, if_neg n10, m_rc, ob_s, m_its3J hj, ob_s]
    by_cases h1 : mbd g j = -1
    · have h1' : (vi g j 3).toInt32 = -1 := h1
      rw [if_pos h1', noS_g h1, bb_X12_hour_258]
    · have h1' : ¬ (vi g j 3).toInt32 = -1 := h1
      have w := hw j hj hr'
      have hty : ty g j < NY := w.2.1.2
      have ety : (vi g j 1).toInt32 = nI (ty g j) := isn_32 w.2.1
      have e2 : (2 : Int32) + nI (ty g j) = nI (2 + ty g j) := li_add 2 _
      have hcmp : (0 ≤ lg_cmp (vi g j 3) (g (2 + ty g j))) = ¬ (mbd g j < spt g j) := by
        rw [lc_ge, w.2.2.2.1, hp _ hty, j_le, Int32.not_lt]; rfl
      have e4 : vi g j 4 = (mnt g j).toInt64 := w.2.2.2.2.1
      rw [if_neg h1', m_R1, ob_s, m_of3, ob_s, m_viJ hj (by omega), ob_s, m_R1, ob_s, m_rc, ob_s, m_its1J hj, ob_s, ety, e2, m_nowJ (show 2 + ty g j < 116 by omega), ob_s, noS_t hr' h1]
      by_cases h2 : mbd g j < spt g j
      · rw [if_neg (hcmp ▸ fun q => q h2), bb_X12_hour_190, m_rc, ob_s, m_its4J hj, ob_s]
        by_cases h3 : mnt g j = -1
        · have h3' : (vi g j 4).toInt32 = -1 := h3
          have ev : noV I g j = clk g + I 202 5 := by unfold noV; rw [if_pos h2, if_pos h3]
          rw [if_pos h3', bb_X12_hour_206, m_R1, ob_s, m_of4, ob_s, if_neg n10, if_neg n10, m_R1, ob_s, m_n0J, ob_s, m_R2, ob_s, m_to5, ob_s, bb_X12_hour_257, m_snowJ _ (by omega), ob_s, bb_X12_hour_258, ev, clk_add hk hh]
        · have h3' : ¬ (vi g j 4).toInt32 = -1 := h3
          have ev : noV I g j = mnt g j := by unfold noV; rw [if_pos h2, if_neg h3]
          rw [if_neg h3', bb_X12_hour_206, m_R1, ob_s, m_of4, ob_s, if_neg n10, if_pos rfl, m_R1, ob_s, m_of4, ob_s, m_viJ hj (by omega), ob_s, bb_X12_hour_257, m_snowJ _ (by omega), ob_s, bb_X12_hour_258, ev, e4]
      · have ev : noV I g j = -1 := by unfold noV; rw [if_neg h2]
        rw [if_pos (hcmp ▸ h2), bb_X12_hour_190, m_rc, ob_s, m_its4J hj, ob_s]
        have key : ∀ c : Int32, bb_X12_hour_206 (bb_X12_hour_134 n) 200 (nI j) 0 c (S0, I, jr J g, x) = bb_X12_hour_134 n 200 (nI j + 1) (S0, I, jr J (fu g (14 + 6 * j + 4) (noV I g j).toInt64), x) := by
          intro c
          rw [bb_X12_hour_206, m_R1, ob_s, m_of4, ob_s, if_pos rfl, bb_X12_hour_257, m_snowJ _ (by omega), ob_s, bb_X12_hour_258, ev]
          rfl
        by_cases h3 : (vi g j 4).toInt32 = -1
        · rw [if_pos h3]; exact key 1
        · rw [if_neg h3]; exact key 0
end NO
