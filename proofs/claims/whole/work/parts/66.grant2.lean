/-! ===== the requests of an hour ===== -/
section GS
variable {I : Nat → Nat → Int32} {J : Nat → Nat → Int64} {x : Nat} {NH NY NE NR s : Nat} {f f' : Nat → Int64}
def rqe (f : Nat → Int64) (r : Nat) : Nat := nv (vq f r 0)
def rqy (f : Nat → Int64) (r : Nat) : Nat := nv (vq f r 1)
/-- whether request r can begin -/
def can (I : Nat → Nat → Int32) (NH : Nat) (f : Nat → Int64) (r : Nat) : Bool := !decide (bq f r < (f (2 + rqy f r)).toInt32) && decide (cn (rn f) 12 < 12) && !decide ((mbest I f (rqy f r) NH).1 = -1)
/-- the row behind it -/
def nxF (I : Nat → Nat → Int32) (NH : Nat) (f : Nat → Int64) (r : Nat) : Nat → Int64 := dropF (fst f ((lof f).getD 0) (nI (rqe f r)).toInt64 (nI (rqy f r)).toInt64 (mbest I f (rqy f r) NH).1.toInt64 (bq f r).toInt64) r
def grF (I : Nat → Nat → Int32) (NH : Nat) : Nat → Nat → (Nat → Int64) → (Nat → Int64)
  | 0, _, f => f
  | k + 1, p, f => match rqA f (nI p) with
    | none => f
    | some r => if can I NH f r = true then grF I NH k p (nxF I NH f r) else grF I NH k (p + 1) f
theorem lof_some (h : cn (rn f) 12 < 12) : ∃ i, i < 12 ∧ lof f = some i := by
  cases e : lof f with
  | some i => exact ⟨i, by have := fd_some e; omega, rfl⟩
  | none =>
    have q := fd_none e
    have h2 : cn (rn f) 12 = cn (fun _ => true) 12 := cn_congr (fun k hk => by have := q k (by omega) (by omega); simpa using this)
    rw [h2, cn_true] at h
    omega
theorem fst_rq {i : Nat} (hi : i < 12) {e y h b : Int64} : nq (fst f i e y h b) = nq f ∧ bq (fst f i e y h b) = bq f ∧ vq (fst f i e y h b) = vq f := oi_rq fst_oi hi
theorem can_ex (hw : wff I NH NY NE f) (h8 : NH ≤ 8) {r : Nat} (h : can I NH f r = true) : ∃ i h, i < 12 ∧ lof f = some i ∧ h < NH ∧ (mbest I f (rqy f r) NH).1 = nI h ∧ mfit I f (rqy f r) h = true ∧ nxF I NH f r = dropF (fst f i (nI (rqe f r)).toInt64 (nI (rqy f r)).toInt64 (nI h).toInt64 (bq f r).toInt64) r := by
  unfold can at h
  have h1 := (Bool.and_eq_true _ _).mp h
  have h2 := (Bool.and_eq_true _ _).mp h1.1
  obtain ⟨i, hi, el⟩ := lof_some (by simpa using h2.2)
  have hb : (mbest I f (rqy f r) NH).1 ≠ -1 := by simpa using h1.2
  rcases mbest_is I f (rqy f r) NH (by omega) with q | ⟨h, hh, e1, e2⟩
  · exact absurd q hb
  · refine ⟨i, h, hi, el, hh, e1, e2, ?_⟩
    unfold nxF
    rw [el, e1]
    rfl
theorem nxF_wff (hg : mrg I NH NY NE NR) (hc : mc I NH NY NE NR) (hw : wff I NH NY NE f) {r : Nat} (hr : r < nq f) (h : can I NH f r = true) : wff I NH NY NE (nxF I NH f r) ∧ nq (nxF I NH f r) = nq f - 1 := by
  obtain ⟨i, h, hi, el, hh, e1, e2, e3⟩ := can_ex hw hc.2.1 h
  have q := hw.2.2.2.2.2.1 r hr
  have ws := wff_start hg hc hw (e := rqe f r) (y := rqy f r) (b := bq f r) el q.1.2 q.2.1.2 hh (Or.inr q.2.2.2) e2
  have en := (@fst_rq f i hi (nI (rqe f r)).toInt64 (nI (rqy f r)).toInt64 (nI h).toInt64 (bq f r).toInt64).1
  rw [e3]
  exact ⟨wff_drop hg hc.2.2.1 ws (by rw [← en] at hr; exact hr), by rw [(dropF_nq ws.2.1 r).1]; exact congrArg (· - 1) en⟩
end GS
