/-! MORE POSITIONS, AND SEARCHES FOR AN ID -/
theorem no_ix {i n : Nat} {a : Int32} (hi : i < n) (hn : n < 2 ^ 31) (ha : a = nI i) : ¬ (a < 0 ∨ nI n ≤ a) := by
  subst ha
  rintro (q | q)
  · exact nI_pos (by omega) q
  · exact nI_ge hi hn q
