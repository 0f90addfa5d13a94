/-! A SIGN TYPED -/
theorem Txt.on2 {b n : Nat} {σ σ' : Mem} {a a' : Nat → Int32} (h1 : ∀ s : Nat, rd σ' 13 b s = rd σ 13 b s) (h2 : ∀ s : Nat, rd σ' 16 b s = rd σ 16 b s) (h3 : σ'.2.2.1 b = σ.2.2.1 b) (e : ∀ i : Nat, a' i = a i) (x : Txt σ b n a) : Txt σ' b n a' := by
  obtain ⟨q1, q2, q3, q4, q5, q6⟩ := x
  exact ⟨by rw [h1]; exact q1, by rw [h1]; exact q2, by rw [h3]; exact q3, by rw [h3]; exact q4, fun i hi => by rw [h2, e]; exact q5 i hi, fun i hi => by rw [h2]; rw [h3] at hi; exact q6 i hi⟩
