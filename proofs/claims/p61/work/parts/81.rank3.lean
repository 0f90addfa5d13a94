/-! RANKS OF BALES -/
theorem bal_wsp {t nB nO nP : Nat} {a : Nat → Int32} (F : Fits t nB nO nP a) : ∃ w s p : Nat → Nat, ∀ q : Nat, q < nB → a (15 + 4 * q) = nI (w q) ∧ a (16 + 4 * q) = nI (s q) ∧ a (17 + 4 * q) = nI (p q) ∧ (1 ≤ w q ∧ w q ≤ 50) ∧ (10 ≤ s q ∧ s q ≤ 60) ∧ 1 ≤ p q ∧ p q ≤ 20 := by
  have g := F.2.2.2.2.2.1
  refine ⟨fun q => (a (15 + 4 * q)).toNatClampNeg, fun q => (a (16 + 4 * q)).toNatClampNeg, fun q => (a (17 + 4 * q)).toNatClampNeg, fun q hq => ?_⟩
  obtain ⟨-, ⟨l, l1, l2, l3⟩, ⟨w, w1, w2, w3⟩, z, z1, z2, z3⟩ := g q hq
  show a (15 + 4 * q) = nI (a (15 + 4 * q)).toNatClampNeg ∧ a (16 + 4 * q) = nI (a (16 + 4 * q)).toNatClampNeg ∧ a (17 + 4 * q) = nI (a (17 + 4 * q)).toNatClampNeg ∧ (1 ≤ (a (15 + 4 * q)).toNatClampNeg ∧ (a (15 + 4 * q)).toNatClampNeg ≤ 50) ∧ (10 ≤ (a (16 + 4 * q)).toNatClampNeg ∧ (a (16 + 4 * q)).toNatClampNeg ≤ 60) ∧ 1 ≤ (a (17 + 4 * q)).toNatClampNeg ∧ (a (17 + 4 * q)).toNatClampNeg ≤ 20
  rw [l3, w3, z3, nI_clamp (by omega), nI_clamp (by omega), nI_clamp (by omega)]
  exact ⟨rfl, rfl, rfl, ⟨l1, l2⟩, ⟨w1, w2⟩, z1, z2⟩
/-- value and staple in one number -/
def vT (w s p : Nat → Nat) (q : Nat) : Nat := w q * p q * 61 + s q
