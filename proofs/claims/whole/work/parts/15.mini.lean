/-! ===== stands in for 15.facts while the pure parts are worked on (layout.sh) ===== -/
def ab_fu : Nat := 1000000
def ab_ck (i n : Int32) : Option Unit := if ¬ i < 0 ∧ i < n then some () else none
