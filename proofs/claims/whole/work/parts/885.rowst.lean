/-! ===== statements ===== -/
section ST
variable {I I' I0 I1 I2 I3 I4 M M' M0 M1 M2 : Nat → Nat → Int32} {J J' J1 J2 J3 J4 : Nat → Nat → Int64} {x x' : Nat} {T : Nat → Int32} {N p : Nat}
theorem h01 : (0 : Int32) &&& 1 = 0 := by decide
theorem h11 : (1 : Int32) &&& 1 = 1 := by decide
theorem LK_bind2 {rc rm : Option (Int32 × ab_Mm)} {fc fm g : Int32 × ab_Mm → Option (Int32 × ab_Mm)} {ok1 ok2 : (Nat → Nat → Int32) → (Nat → Nat → Int32) → Prop} (h : LK I0 M0 J x J' x' rc rm ok1) (hc0 : ∀ I, fc (0, (S0, I, J, x)) = some (0, (S0, I, J, x))) (hm0 : ∀ M, (fm (0, (S0, M, J', x'))).bind g = some (0, (S0, M, J', x'))) (hok : ∀ I M, ok1 I M → LK I0 M0 J x J' x' (fc (1, (S0, I, J, x))) ((fm (1, (S0, M, J', x'))).bind g) ok2) : LK I0 M0 J x J' x' (rc.bind fc) ((rm.bind fm).bind g) ok2 := by
  rcases h with ⟨I, M, r1, r2, r3⟩ | ⟨I, M, r1, r2, r3⟩
  · rw [r1, r2, ob_s, ob_s]
    exact hok I M r3
  · rw [r1, r2, ob_s, ob_s]
    exact Or.inr ⟨I, M, hc0 I, hm0 M, r3⟩
theorem LK_bindB {rc rm : Option (Int32 × ab_Mm)} {fc fm gc gm : Int32 × ab_Mm → Option (Int32 × ab_Mm)} {ok1 ok2 : (Nat → Nat → Int32) → (Nat → Nat → Int32) → Prop} (h : LK I0 M0 J x J' x' rc rm ok1) (hc0 : ∀ I, (fc (0, (S0, I, J, x))).bind gc = some (0, (S0, I, J, x))) (hm0 : ∀ M, (fm (0, (S0, M, J', x'))).bind gm = some (0, (S0, M, J', x'))) (hok : ∀ I M, ok1 I M → LK I0 M0 J x J' x' ((fc (1, (S0, I, J, x))).bind gc) ((fm (1, (S0, M, J', x'))).bind gm) ok2) : LK I0 M0 J x J' x' ((rc.bind fc).bind gc) ((rm.bind fm).bind gm) ok2 := by
  rcases h with ⟨I, M, r1, r2, r3⟩ | ⟨I, M, r1, r2, r3⟩
  · rw [r1, r2, ob_s, ob_s]
    exact hok I M r3
  · rw [r1, r2, ob_s, ob_s]
    exact Or.inr ⟨I, M, hc0 I, hm0 M, r3⟩
theorem LK_id {rc rm : Option (Int32 × ab_Mm)} {fc : Int32 × ab_Mm → Option (Int32 × ab_Mm)} {ok : (Nat → Nat → Int32) → (Nat → Nat → Int32) → Prop} (h : LK I0 M0 J x J' x' rc rm ok) (hc0 : ∀ I, fc (0, (S0, I, J, x)) = some (0, (S0, I, J, x))) (hc1 : ∀ I, fc (1, (S0, I, J, x)) = some (1, (S0, I, J, x))) : LK I0 M0 J x J' x' (rc.bind fc) rm ok := by
  rcases h with ⟨I, M, r1, r2, r3⟩ | ⟨I, M, r1, r2, r3⟩
  · rw [r1, ob_s, hc1]
    exact Or.inl ⟨I, M, rfl, r2, r3⟩
  · rw [r1, ob_s, hc0]
    exact Or.inr ⟨I, M, rfl, r2, r3⟩
theorem LK_weak {rc rm : Option (Int32 × ab_Mm)} {ok ok2 : (Nat → Nat → Int32) → (Nat → Nat → Int32) → Prop} (h : LK I0 M0 J x J' x' rc rm ok) (hw : ∀ I M, ok I M → ok2 I M) : LK I0 M0 J x J' x' rc rm ok2 := by
  rcases h with ⟨I, M, r1, r2, r3⟩ | z
  · exact Or.inl ⟨I, M, r1, r2, hw I M r3⟩
  · exact Or.inr z
/-- what the reference does behind a statement -/
def clK (q : Int32 × ab_Mm) : Option (Int32 × ab_Mm) := if q.1 = 0 then some (0, q.2) else dd_X12_closes 200 59 q.2
theorem clK0 (M : Nat → Nat → Int32) : clK (0, (S0, M, J, x)) = some (0, (S0, M, J, x)) := if_pos rfl
theorem clK1 (M : Nat → Nat → Int32) : clK (1, (S0, M, J, x)) = dd_X12_closes 200 59 (S0, M, J, x) := if_neg n10
/-- the same of the class -/
def clC (q : Int32 × ab_Mm) : Option (Int32 × ab_Mm) := if q.1 = 0 then some (0, q.2) else dd_X7_takes 1 59 q.2
theorem clC0 (I : Nat → Nat → Int32) : clC (0, (S0, I, J, x)) = some (0, (S0, I, J, x)) := if_pos rfl
theorem clC1 (I : Nat → Nat → Int32) : clC (1, (S0, I, J, x)) = dd_X7_takes 1 59 (S0, I, J, x) := if_neg n10
theorem s59 : sor 59 = 4 := by decide
theorem isr_vl (hT : rgT T N) (hp : p ≤ N) (h : tk T N p = 2) {lo hi : Nat} (hl : lo < 2 ^ 31) (hh : hi < 2 ^ 31) (h1 : ¬ vlN T N p < nI lo) (h2 : vlN T N p ≤ nI hi) : isr (vlN T N p) lo hi := by
  obtain ⟨v, v1, v2⟩ := vl_is hT hp h
  rw [v2] at h1 h2 ⊢
  rw [li_lt (by omega) (by omega)] at h1
  rw [li_le (by omega) (by omega)] at h2
  exact ⟨v, rfl, by omega, h2⟩
/-- the row comes into use -/
theorem c_keeps {t R C n : Nat} (ht : tb t R C) (hI : tI I t R C) (hn : I t 3 = nI n) (h1 : n < R) : dd_X7_keeps 1 t (S0, I, J, x) = some (1, (S0, ab_u I t 3 (nI (n + 1)), J, x)) := by
  have hi := tb_insert (J := J) (x := x) ht hI hn (row := nI n) (r := n) rfl (Nat.le_refl _) h1
  rw [Nat.sub_self, Nat.zero_mul, cp_0] at hi
  unfold dd_X7_keeps
  rw [fI_X10_3 ht.1, ob_s, hn, rc_X10 ht.1, ob_s, hi, ob_s]
theorem L_close (h : STT T N p I0 M0 I M) {t n : Nat} (ht4 : t = 5 ∨ t = 7 ∨ t = 9 ∨ t = 11 ∨ t = 13) : LK I0 M0 J x J' x' (dd_X7_takes 1 59 (S0, ab_u I t 3 (nI (n + 1)), J, x)) (dd_X12_closes 200 59 (S0, M, J', x')) (fun I' M' => STT T N (nxt T N p) I0 M0 I' M' ∧ I' t 3 = nI (n + 1) ∧ (∀ r, r ≠ 1 → r ≠ t → I' r = I r) ∧ (∀ k, k ≠ 7 → k ≠ 8 → k ≠ 9 → I' 1 k = I 1 k) ∧ adM M M') := by
  have h' : STT T N p I0 M0 (ab_u I t 3 (nI (n + 1))) M := STT_uC h _ (by omega)
  refine LK_weak (L_sign h' s59) (fun I' M' z => ⟨z.1, ?_, fun r p1 p2 => ?_, fun k p1 p2 p3 => ?_, z.2.2.2⟩)
  · rw [z.2.2.1.1 t (by omega), u_e]
  · rw [z.2.2.1.1 r p1, u_r p2]
  · rw [z.2.2.1.2 k p1 p2 p3, u_r (by omega)]
/-- the reference counts a row -/
theorem m_counts {w n : Nat} {wI : Int32} (hw : w < 4) (hwI : wI = nI w) (hm : M 202 (7 + w) = nI n) : dd_X12_counts 200 wI (S0, M, J', x') = some (1, (S0, ab_u M 202 (7 + w) (nI (n + 1)), J', x')) := by
  have e7 : (7 : Int32) + nI w = nI (7 + w) := by
    show nI 7 + nI w = _
    rw [li_add]
  unfold dd_X12_counts
  rw [m_R2, ob_s, hwI, e7, m_told (by omega), ob_s, hm, nI_1, op_st _ sh_200 rfl (show 7 + w < 14 by omega) (by omega), ob_s]
theorem tbH : tb 5 8 2 := ⟨rfl, rfl, by decide, by decide⟩
theorem tbY : tb 7 6 3 := ⟨rfl, rfl, by decide, by decide⟩
theorem tbE : tb 9 6 1 := ⟨rfl, rfl, by decide, by decide⟩
theorem tbRv : tb 11 8 6 := ⟨rfl, rfl, by decide, by decide⟩
/-- the hosts of the drafts -/
def dH (a b c : Nat → Int32) (v : Int32) (n : Nat) : Prop := n ≤ 8 ∧ a 3 = nI n ∧ v = nI n ∧ (∀ h, h < n → (b (h * 2 + 0) = c (16 + (2 * h + 0)) ∧ isr (c (16 + (2 * h + 0))) 1 64) ∧ (b (h * 2 + 1) = c (16 + (2 * h + 1)) ∧ isr (c (16 + (2 * h + 1))) 1 256)) ∧ ∀ h, n ≤ h → h < 8 → b (h * 2 + 0) = 0
def dY (a b c : Nat → Int32) (v : Int32) (n : Nat) : Prop := n ≤ 6 ∧ a 3 = nI n ∧ v = nI n ∧ ∀ h, h < n → (b (h * 3 + 0) = c (18 + (3 * h + 0)) ∧ isr (c (18 + (3 * h + 0))) 1 64) ∧ (b (h * 3 + 1) = c (18 + (3 * h + 1)) ∧ isr (c (18 + (3 * h + 1))) 1 256) ∧ (b (h * 3 + 2) = c (18 + (3 * h + 2)) ∧ isr (c (18 + (3 * h + 2))) 1 9999)
def dE (a b c : Nat → Int32) (v : Int32) (n : Nat) : Prop := n ≤ 6 ∧ a 3 = nI n ∧ v = nI n ∧ ∀ h, h < n → b (h * 1 + 0) = c (6 + h) ∧ isr (c (6 + h)) 0 9999
def rsN (c : Nat → Int32) (r NY NE : Nat) : Prop := (∃ e, e < NE ∧ c (48 + (6 * r + 0)) = nI e) ∧ (∃ y, y < NY ∧ c (48 + (6 * r + 1)) = nI y) ∧ isr (c (48 + (6 * r + 2))) 1 9 ∧ isr (c (48 + (6 * r + 3))) 0 9998 ∧ isr (c (48 + (6 * r + 4))) 1 9999 ∧ isr (c (48 + (6 * r + 5))) 0 100
def dV (a b c : Nat → Int32) (v : Int32) (NY NE n : Nat) : Prop := n ≤ 8 ∧ a 3 = nI n ∧ v = nI n ∧ ∀ r, r < n → (∀ w, w < 6 → b (r * 6 + w) = c (48 + (6 * r + w))) ∧ rsN c r NY NE
def dS (a b c : Nat → Int32) : Prop := a 3 = nI 0 ∧ b 0 = c 11 ∧ b 1 = c 12 ∧ b 2 = c 13 ∧ isr (c 11) 1 100 ∧ isr (c 12) 0 48 ∧ isr (c 13) 0 400
theorem dV_mono {a b c : Nat → Int32} {v : Int32} {NY NE NY' NE' n : Nat} (h : dV a b c v NY NE n) (h1 : NY ≤ NY') (h2 : NE ≤ NE') : dV a b c v NY' NE' n := ⟨h.1, h.2.1, h.2.2.1, fun r hr => by
  have q := h.2.2.2 r hr
  obtain ⟨⟨e, e1, e2⟩, ⟨y, y1, y2⟩, q3⟩ := q.2
  exact ⟨q.1, ⟨e, by omega, e2⟩, ⟨y, by omega, y2⟩, q3⟩⟩
theorem d3_16 : nI (2 * 16) / 2 = nI 16 := by decide
theorem d3_18 : nI (2 * 18) / 2 = nI 18 := by decide
theorem d3_6 : nI (2 * 6) / 2 = nI 6 := by decide
theorem d3_48 : nI (2 * 48) / 2 = nI 48 := by decide
/-- a host -/
theorem L_host (h : STT T N p I0 M0 I M) (hw : isW T N p 0 = true) {n : Nat} (d : dH (I 5) (I 6) (M 203) (M 202 7) n) : LK I0 M0 J x J' x' ((dd_X7_statement 1 (S0, I, J, x)).bind clC) ((dd_X12_statement 200 (S0, M, J', x')).bind clK) (fun I' M' => (∃ p', p < p' ∧ STT T N p' I0 M0 I' M') ∧ dH (I' 5) (I' 6) (M' 203) (M' 202 7) (n + 1) ∧ (∀ r, r ≠ 1 → r ≠ 5 → r ≠ 6 → I' r = I r) ∧ I' 1 10 = I 1 10 ∧ (∀ r, r ≠ 200 → r ≠ 202 → r ≠ 203 → M' r = M r) ∧ (∀ k, k ≠ 7 → M' 202 k = M 202 k) ∧ M' 200 19 = M 200 19) := by
  obtain ⟨n8, d1, d2, d3, d4⟩ := d
  have cw : dd_X7_isWord 1 1000 (S0, I, J, x) = some (1, (S0, I, J, x)) := by
    have q := c_isWord (J := J) (x := x) h.1 (i := 0) (by omega)
    rw [hw] at q; exact q
  have mw : dd_X12_isWord 200 1024 (S0, M, J', x') = some (1, (S0, M, J', x')) := by
    have q := m_isWord (J := J') (x := x') h.2.1 (i := 12) (by omega)
    rw [isW_12 (i := 0) (by omega), hw] at q; exact q
  have k7 : ab_ld (S0, M, J', x') 1 202 7 = some (nI n) := by rw [← d2]; exact m_told (j := 7) (by omega)
  have htk : tk T N p ≠ 0 := by
    intro z
    unfold isW at hw
    rw [if_neg (by omega)] at hw
    cases hw
  have hp := h.1.2.1
  have hT := h.2.1.1.2.1
  have hpn := (nxt_le (T := T) hp).2.2 htk
  unfold dd_X7_statement dd_X12_statement
  rw [r_rc, ob_s, cw, ob_s, if_neg n10, fR_X7_3 okR, ob_s]
  rw [m_rc, ob_s, mw, ob_s, if_neg n10, m_R2, ob_s, k7, ob_s, m_rc, ob_s]
  dsimp only
  have cR : ∀ (Ia : Nat → Nat → Int32), ab_fR (S0, Ia, J, x) 7 1 3 = some 4 := fun _ => fR_X7_3 okR
  have c0 : ∀ (Ia : Nat → Nat → Int32), ab_fR (S0, Ia, J, x) 1 4 0 = some 5 := fun _ => op_fR (fs := [some (some 5), some (some 7), some (some 9), some (some 11), some (some 13), some (some 15)]) rfl rfl
  rw [c0, ob_s, r_rc, ob_s]
  refine LK_bindB (L_opens (w := 0) h tbH h.2.2.2.1.2.2.2.1 d1 n8 (by omega) d2 li_0 (by omega) rfl) (fun I => ?_) (fun M => ?_) (fun I1 M1 z1 => ?_)
  · dsimp only; rw [if_pos rfl, bb_X7_statement_78, bb_X7_statement_79, h01, if_neg (by simp), ob_s]; exact clC0 I
  · dsimp only; rw [if_pos rfl, bb_X12_statement_74, bb_X12_statement_75, h01, if_neg (by simp), ob_s]; exact clK0 M
  obtain ⟨z1, zn, za, zm⟩ := z1
  have e1 : I1 5 = I 5 := za.1 5 (by omega)
  have hp1 := z1.1.2.1
  dsimp only
  rw [if_neg n10, cR, ob_s, c0, ob_s, r_rc, ob_s, if_neg n10, m_R3, ob_s, m_rc, ob_s]
  have ex0 : (2 : Int32) * nI n = nI (2 * n) := li_mul 2 n
  refine LK_bindB (L_lays (col := 0) (k := 2 * n) (hf := 16) z1 1 64 tbH z1.2.2.2.1.2.2.2.1 (by rw [e1]; exact d1) li_0 (by omega) (by omega) (by omega) sh_201 d3_16 ex0 (by omega) (by omega) (by omega)) (fun I => ?_) (fun M => ?_) (fun I2 M2 z2 => ?_)
  · dsimp only; rw [if_pos rfl, bb_X7_statement_78, bb_X7_statement_79, h01, if_neg (by simp), ob_s]; exact clC0 I
  · dsimp only; rw [if_pos rfl, bb_X12_statement_74, bb_X12_statement_75, h01, if_neg (by simp), ob_s]; exact clK0 M
  obtain ⟨z2, t2, v2, w2, _, l2, u2, fc2, fm2⟩ := z2
  have e2 : I2 5 = I 5 := (fc2.1 5 (by omega) (by omega)).trans e1
  have hp2 := z2.1.2.1
  dsimp only
  rw [if_neg n10, cR, ob_s, c0, ob_s, r_rc, ob_s, if_neg n10, m_R3, ob_s, m_rc, ob_s]
  have ex1 : (2 : Int32) * nI n + 1 = nI (2 * n + 1) := by rw [ex0, nI_1]
  refine LK_bindB (L_lays (col := 1) (k := 2 * n + 1) (hf := 16) z2 1 256 tbH z2.2.2.2.1.2.2.2.1 (by rw [e2]; exact d1) (li_n 1) (by omega) (by omega) (by omega) sh_201 d3_16 ex1 (by omega) (by omega) (by omega)) (fun I => ?_) (fun M => ?_) (fun I3 M3 z3 => ?_)
  · dsimp only; rw [if_pos rfl, bb_X7_statement_78, bb_X7_statement_79, h01, if_neg (by simp), ob_s]; exact clC0 I
  · dsimp only; rw [if_pos rfl, bb_X12_statement_74, bb_X12_statement_75, h01, if_neg (by simp), ob_s]; exact clK0 M
  obtain ⟨z3, t3, v3, w3, _, l3, u3, fc3, fm3⟩ := z3
  have e3 : I3 5 = I 5 := (fc3.1 5 (by omega) (by omega)).trans e2
  have m3 : M3 202 = M 202 := (fm3.1 202 (by omega) (by omega)).trans ((fm2.1 202 (by omega) (by omega)).trans (zm.1 202 (by omega)))
  have hp3 := z3.1.2.1
  dsimp only
  rw [if_neg n10, cR, ob_s, c0, ob_s, r_rc, ob_s, c_keeps tbH z3.2.2.2.1.2.2.2.1 (by rw [e3]; exact d1) zn, ob_s]
  dsimp only
  rw [if_neg n10, bb_X7_statement_79, h11, if_neg (by simp), ob_s, clC1]
  rw [if_neg n10, m_rc, ob_s, m_counts (w := 0) (by omega) li_0 (by rw [m3]; exact d2), ob_s, if_neg n10, bb_X12_statement_75, h11, if_neg (by simp), ob_s, clK1]
  have h4 : STT T N (nxt T N (nxt T N (nxt T N p))) I0 M0 I3 (ab_u M3 202 (7 + 0) (nI (n + 1))) := STT_uM z3 _ (by omega)
  refine LK_weak (L_close h4 (by omega)) (fun I4 M4 z4 => ?_)
  · obtain ⟨y1, y2, y3, y4, y5⟩ := z4
    have a1 := nxt_le (T := T) hp1
    have a2 := nxt_le (T := T) hp2
    have a3 := nxt_le (T := T) hp3
    have c1 := stt_le (T := T) hp1
    have c2 := stt_le (T := T) hp2
    have c3 := stt_le (T := T) hp3
    have r5 : ∀ j, j ≠ n * 2 + 0 → j ≠ n * 2 + 1 → I4 6 j = I 6 j := fun j h1 h2 => by
      rw [y3 6 (by omega) (by omega), fc3.2.1 j h2, fc2.2.1 j h1, za.1 6 (by omega)]
    have r50 : I4 6 (n * 2 + 0) = vlN T N (nxt T N p) := by
      rw [y3 6 (by omega) (by omega), fc3.2.1 _ (by omega)]; exact v2
    have r51 : I4 6 (n * 2 + 1) = vlN T N (nxt T N (nxt T N p)) := by
      rw [y3 6 (by omega) (by omega)]; exact v3
    have m4 : M4 203 = M3 203 := by rw [y5.1 203 (by omega), u_r (by omega)]
    have s5 : ∀ j, j ≠ 16 + (2 * n + 0) → j ≠ 16 + (2 * n + 1) → M4 203 j = M 203 j := fun j h1 h2 => by
      rw [m4, fm3.2.1 j h2, fm2.2.1 j h1, zm.1 203 (by omega)]
    have s50 : M4 203 (16 + (2 * n + 0)) = vlN T N (nxt T N p) := by
      rw [m4, fm3.2.1 _ (by omega)]; exact w2
    have s51 : M4 203 (16 + (2 * n + 1)) = vlN T N (nxt T N (nxt T N p)) := by
      rw [m4]; exact w3
    have q0 : isr (vlN T N (nxt T N p)) 1 64 := isr_vl hT hp1 t2 (by omega) (by omega) l2 u2
    have q1 : isr (vlN T N (nxt T N (nxt T N p))) 1 256 := isr_vl hT hp2 t3 (by omega) (by omega) l3 u3
    refine ⟨⟨_, by omega, y1⟩, ⟨by omega, y2, ?_, fun h hh => ?_, fun h h1 h2 => ?_⟩, fun r p1 p2 p3 => ?_, ?_, fun r p1 p2 p3 => ?_, fun k hk => ?_, ?_⟩
    · rw [y5.1 202 (by omega), u_e]
    · by_cases e : h = n
      · rw [e, r50, r51, s50, s51]; exact ⟨⟨rfl, q0⟩, rfl, q1⟩
      · rw [r5 _ (by omega) (by omega), r5 _ (by omega) (by omega), s5 _ (by omega) (by omega), s5 _ (by omega) (by omega)]
        exact d3 h (by omega)
    · rw [r5 _ (by omega) (by omega)]; exact d4 h (by omega) h2
    · rw [y3 r p1 p2, fc3.1 r p1 p3, fc2.1 r p1 p3, za.1 r p1]
    · rw [y4 10 (by omega) (by omega) (by omega), fc3.2.2 10 (by omega) (by omega) (by omega), fc2.2.2 10 (by omega) (by omega) (by omega), za.2 10 (by omega) (by omega) (by omega)]
    · rw [y5.1 r p1, u_r p2, fm3.1 r p1 p3, fm2.1 r p1 p3, zm.1 r p1]
    · rw [y5.1 202 (by omega), u_k hk, m3]
    · rw [y5.2 19 (by omega), u_r (by omega), fm3.2.2 19 (by omega) (by omega), fm2.2.2 19 (by omega) (by omega), zm.2 19 (by omega)]
end ST
