/-! SUMS, AND THE REFERENCE'S COPIES -/
theorem w_sum {k n : Nat} {p : Nat → Nat} {σ : Mem} {Q : Int32 → Mem → Prop} {E : String → Mem → Prop} (hk : rd σ 0 k 1 = nI n) (hn : n ≤ rowCap k) (hf : ∀ q : Nat, q < n → rd σ 1 k q = nI (p q)) (h : Q (nI (sumN p n)) σ) : wX7_sum k σ Q E := by
  have hc := rowCap_le k
  have key : ∀ m q : Nat, q + m = n → wX7_sum_4 k Q E (fun x s => Q x s) (m + 1) (nI (sumN p q)) (nI q) σ := by
    intro m
    induction m with
    | zero =>
      intro q hq
      obtain rfl : q = n := by omega
      exact ⟨fun _ => h, fun r => absurd (show rd σ 0 k 1 ≤ nI q from hk ▸ nI_le (Nat.le_refl q) (by omega)) r⟩
    | succ m ih =>
      intro q hq
      refine ⟨fun r => absurd (hk ▸ r) (nI_ge (show q < n by omega) (by omega)), fun _ => ⟨vp_in_nI (by omega) (by omega), fun v1 h1 v2 h2 => ?_⟩⟩
      rw [nI_clamp (by omega), hf q (by omega), nI_add] at h1
      rw [nI_1] at h2
      subst h1
      subst h2
      exact ih (q + 1) (by omega)
  exact ⟨n + 1, key n 0 (by omega)⟩
/-- what a copy of a row of the reference leaves -/
def Cp90 (σ τ : Mem) (k k2 A B : Nat) : Prop := (∀ f k' s : Nat, rd τ f k' s = if f = 10 ∧ k' = k2 ∧ B ≤ s ∧ s < B + 90 then rd σ 10 k (A + (s - B)) else rd σ f k' s) ∧ τ.2 = σ.2
