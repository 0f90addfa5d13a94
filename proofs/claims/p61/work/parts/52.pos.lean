/-! POSITIONS: rows, bounds, and what stands at a position -/
theorem w_has {k n : Nat} {a : Int32} {σ : Mem} {Q : Int32 → Mem → Prop} {E : String → Mem → Prop} (hn : n < 2 ^ 31) (hk : rd σ 0 k 1 = nI n) (h1 : ∀ i : Nat, i < n → a = nI i → Q 1 σ) (h2 : a < 0 ∨ nI n ≤ a → Q 0 σ) : wX7_has k a σ Q E := by
  unfold wX7_has
  rw [hk]
  refine ⟨fun q => h2 (Or.inl q), fun q => ⟨fun r => h2 (Or.inr r), fun r => ?_⟩⟩
  rcases pk_ix a hn with e | e | ⟨i, hi, e⟩
  · exact absurd e q
  · exact absurd e r
  · exact h1 i hi e
theorem w_get {k n i : Nat} {a : Int32} {σ : Mem} {Q : Int32 → Mem → Prop} {E : String → Mem → Prop} (hk : rd σ 0 k 1 = nI n) (hi : i < n) (hn : n ≤ rowCap k) (ha : a = nI i) (h : Q (rd σ 1 k i) σ) : wX7_get k a σ Q E := by
  have hc : rowCap k ≤ 12 := by
    unfold rowCap
    repeat' split
    all_goals omega
  subst ha
  unfold wX7_get
  rw [hk]
  refine ⟨fun q => absurd q (nI_pos (by omega)), fun _ => ⟨fun q => absurd q (nI_ge hi (by omega)), fun _ => ⟨vp_in_nI (by omega) (by omega), ?_⟩⟩⟩
  rw [nI_clamp (by omega)]
  exact h
