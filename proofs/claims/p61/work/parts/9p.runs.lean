/-! A SCRIPT RUN: class and reference -/
theorem w_setLenE {b n : Nat} {σ : Mem} {Q : Mem → Prop} {E : String → Mem → Prop} (W : WB σ b n) (h : ∀ τ : Mem, (∀ f k s : Nat, ¬ (f = 13 ∧ k = b) → rd τ f k s = rd σ f k s) → τ.2 = σ.2 → WB τ b 0 → Q τ) : wJ4_setLength_d00df b 0 σ Q E := by
  obtain ⟨w1, w2, w3, w4, w5⟩ := W
  have fin : ∀ u : Mem, (∀ f k s : Nat, ¬ (f = 13 ∧ k = b ∧ (s = 2 ∨ s = 3)) → rd u f k s = rd σ f k s) → u.2 = σ.2 → rd u 13 b 3 = 0 → Q u := fun u g g2 e => by
    refine h u (fun f k s n1 => g f k s (by omega)) g2 ⟨(g 13 b 1 (by omega)).trans w1, e, Nat.zero_le _, by rw [g2]; exact w4, fun i hi => ?_⟩
    rw [g2] at hi
    rw [g 16 b i (by omega)]
    exact w5 i hi
  refine ⟨fun _ => ⟨w1, by omega, w5, 0, rfl, by omega, fun _ => ?_, fun q => absurd q (Nat.not_lt_zero _)⟩, fun q => absurd (by decide) q⟩
  show (0 ≤ rd σ 13 b 3 → (rd σ 13 b 3 ≤ 0 → ∀ s3 : Mem, s3 = wr σ 13 b 3 0 → Q s3) ∧ (¬ rd σ 13 b 3 ≤ 0 → ∀ s4 : Mem, s4 = wr σ 13 b 2 1 → ∀ s5 : Mem, s5 = wr s4 13 b 3 0 → Q s5)) ∧ (¬ 0 ≤ rd σ 13 b 3 → False)
  rw [w2]
  refine ⟨fun _ => ⟨fun _ s3 h3 => ?_, fun _ s4 h4 s5 h5 => ?_⟩, fun q => absurd (nI_pos' (by omega)) q⟩
  · exact fin s3 (fun f k s n1 => by rw [h3, rd_wr, if_neg (by omega)]) (by rw [h3, wr_2]) (by rw [h3, rd_wr, if_pos ⟨rfl, rfl, rfl⟩])
  · exact fin s5 (fun f k s n1 => by rw [h5, rd_wr, if_neg (by omega), h4, rd_wr, if_neg (by omega)]) (by rw [h5, wr_2, h4, wr_2]) (by rw [h5, rd_wr, if_pos ⟨rfl, rfl, rfl⟩])
def FrQ (σ τ : Mem) : Prop := (∀ f k s : Nat, ¬ (f = 10 ∧ (k = 8 ∨ k = 13)) → ¬ (f = 15 ∧ k = 0 ∧ (s = 7 ∨ s = 10)) → rd τ f k s = rd σ f k s) ∧ τ.2 = σ.2
theorem FrQ.tr {σ τ u : Mem} (h1 : FrQ σ τ) (h2 : FrQ τ u) : FrQ σ u := ⟨fun f k s n m => (h2.1 f k s n m).trans (h1.1 f k s n m), h2.2.trans h1.2⟩
