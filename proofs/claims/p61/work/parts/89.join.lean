/-! COSTS TOLD; ALL PIECES SPLICED -/
theorem pie_p {t nB nO nP : Nat} {a : Nat → Int32} (F : Fits t nB nO nP a) (ht : t ≤ 512) : ∃ p : Nat → Nat, (∀ q : Nat, q < nP → 1 ≤ p q) ∧ (∀ q : Nat, q < nP → a (78 + q) = nI (p q)) ∧ sumN p nP ≤ 20480 := by
  obtain ⟨p, hp, hs, -⟩ := F.2.2.2.2.2.2.2.1
  exact ⟨p, fun q hq => (hp q hq).1, fun q hq => (hp q hq).2, by omega⟩
/-- the reference's row with the cells of the pieces behind the first cleared -/
def r_clr (a : Nat → Int32) (u : Nat) : Nat → Int32 := fun s => if 79 ≤ s ∧ s < u then 0 else a s
def r_join (a : Nat → Int32) (n c l : Nat) : Nat → Int32 := up (up (r_clr (up (up a 2 (a 2 + nI c)) 7 (a 7 + nI n)) 90) 78 (nI l)) 13 1
theorem join_o {a : Nat → Int32} {n c l s : Nat} (h : s < 78) (h2 : s ≠ 2) (h7 : s ≠ 7) (h13 : s ≠ 13) : r_join a n c l s = a s := by
  unfold r_join r_clr
  rw [up_ne h13, up_ne (by omega), if_neg (by omega), up_ne h7, up_ne h2]
theorem join_2 {a : Nat → Int32} {n c l : Nat} : r_join a n c l 2 = a 2 + nI c := by
  unfold r_join r_clr
  rw [up_ne (by omega), up_ne (by omega), if_neg (by omega), up_ne (by omega), up_eq]
theorem join_7 {a : Nat → Int32} {n c l : Nat} : r_join a n c l 7 = a 7 + nI n := by
  unfold r_join r_clr
  rw [up_ne (by omega), up_ne (by omega), if_neg (by omega), up_eq]
theorem join_78 {a : Nat → Int32} {n c l : Nat} : r_join a n c l 78 = nI l := by
  unfold r_join
  rw [up_ne (by omega), up_eq]
