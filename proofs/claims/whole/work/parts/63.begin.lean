/-! ===== an instance begins: the model ===== -/
section BG
variable {I : Nat → Nat → Int32} {J : Nat → Nat → Int64} {x : Nat} {NH NY NE NR s : Nat} {f g : Nat → Int64}
theorem m_begins {i : Nat} (hl : lof f = some i) (e y h b : Int32) : dd_X12_beginsOne 200 e y h b (S0, I, jr J f, x) = some (nI i, (S0, I, jr J (fst f i e.toInt64 y.toInt64 h.toInt64 b.toInt64), x)) := by
  have ⟨_, i2, i3, i4⟩ := fd_some hl
  have hi : i < 12 := by omega
  have hrn : rn f i = false := by simpa using i3
  unfold dd_X12_beginsOne
  refine lp_up0 (fun n k (_ : Unit) => bb_X12_beginsOne_3 n 200 e y h b k (S0, I, jr J f, x)) i (by omega) (fun _ u => u) (fun _ => some (nI i, (S0, I, jr J (fst f i e.toInt64 y.toInt64 h.toInt64 b.toInt64), x))) (fun n j u hj => ?_) (fun n u => ?_) ()
  · have hj2 : rn f j = true := by have := i4 j (by omega) hj; simpa using this
    show bb_X12_beginsOne_3 (n + 1) 200 e y h b (nI j) (S0, I, jr J f, x) = _
    rw [bb_X12_beginsOne_3, m_rc, ob_s, m_runsT (by omega) hj2, ob_s, if_neg n10]
  · show bb_X12_beginsOne_3 (n + 1) 200 e y h b (nI i) (S0, I, jr J f, x) = _
    rw [bb_X12_beginsOne_3, m_rc, ob_s, m_runsF hi hrn, ob_s, if_pos rfl]
    simp (disch := omega) only [ob_s, m_R1, m_of0, m_of1, m_of2, m_of3, m_of4, m_of5, m_snowJ, m_n0J, fu_n]
    rfl
end BG
