/-! RUN SCRIPT -/
theorem WB.to {b n : Nat} {σ τ : Mem} (W : WB σ b n) (g : ∀ f s : Nat, f = 13 ∨ f = 16 → rd τ f b s = rd σ f b s) (h2 : τ.2.2.1 = σ.2.2.1) : WB τ b n := by
  obtain ⟨w1, w2, w3, w4, w5⟩ := W
  refine ⟨(g 13 1 (by omega)).trans w1, (g 13 3 (by omega)).trans w2, by rw [h2]; exact w3, by rw [h2]; exact w4, fun i hi => ?_⟩
  rw [h2] at hi
  rw [g 16 i (by omega)]
  exact w5 i hi
