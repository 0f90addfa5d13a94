/-! SEARCHES FOR AN ID -/
theorem fst_or (f : Nat → Int32) (v : Int32) (n : Nat) : (∃ i : Nat, i < n ∧ f i = v ∧ ∀ q : Nat, q < i → ¬ f q = v) ∨ ∀ i : Nat, i < n → ¬ f i = v := by
  induction n with
  | zero => exact Or.inr fun i hi => absurd hi (Nat.not_lt_zero i)
  | succ n ih =>
    rcases ih with ⟨i, hi, h1, h2⟩ | h
    · exact Or.inl ⟨i, Nat.lt_succ_of_lt hi, h1, h2⟩
    · by_cases e : f n = v
      · exact Or.inl ⟨n, Nat.lt_succ_self n, e, h⟩
      · refine Or.inr fun i hi => ?_
        rcases Nat.lt_succ_iff_lt_or_eq.mp hi with q | q
        · exact h i q
        · subst q
          exact e
theorem rowCap_le (k : Nat) : rowCap k ≤ 12 := by
  unfold rowCap
  repeat' split
  all_goals omega
theorem w_find_at {k n i : Nat} {v : Int32} {f : Nat → Int32} {σ : Mem} {Q : Int32 → Mem → Prop} {E : String → Mem → Prop} (hk : rd σ 0 k 1 = nI n) (hn : n ≤ rowCap k) (hf : ∀ q : Nat, q < n → rd σ 1 k q = f q) (hi : i < n) (h1 : f i = v) (h2 : ∀ q : Nat, q < i → ¬ f q = v) (h : Q (nI i) σ) : wX7_find k v σ Q E := by
  have hc := rowCap_le k
  have key : ∀ m q : Nat, q + m = i → wX7_find_2 k Q E (fun x s => Q x s) (fun s => Q (-1) s) (m + 1) v (nI q) σ := by
    intro m
    induction m with
    | zero =>
      intro q hq
      obtain rfl : q = i := by omega
      refine ⟨fun r => absurd (hk ▸ r) (nI_ge hi (by omega)), fun _ => ⟨vp_in_nI (by omega) (by omega), fun r => ?_, fun _ => h⟩⟩
      rw [nI_clamp (by omega), hf q hi] at r
      exact absurd h1 r
    | succ m ih =>
      intro q hq
      refine ⟨fun r => absurd (hk ▸ r) (nI_ge (show q < n by omega) (by omega)), fun _ => ⟨vp_in_nI (by omega) (by omega), fun _ v2 hv => ?_, fun r => ?_⟩⟩
      · subst hv
        rw [nI_1]
        exact ih (q + 1) (by omega)
      · rw [nI_clamp (by omega), hf q (by omega)] at r
        exact absurd r (h2 q (by omega))
  exact ⟨i + 1, key i 0 (by omega)⟩
theorem w_find_no {k n : Nat} {v : Int32} {f : Nat → Int32} {σ : Mem} {Q : Int32 → Mem → Prop} {E : String → Mem → Prop} (hk : rd σ 0 k 1 = nI n) (hn : n ≤ rowCap k) (hf : ∀ q : Nat, q < n → rd σ 1 k q = f q) (h2 : ∀ q : Nat, q < n → ¬ f q = v) (h : Q (-1) σ) : wX7_find k v σ Q E := by
  have hc := rowCap_le k
  have key : ∀ m q : Nat, q + m = n → wX7_find_2 k Q E (fun x s => Q x s) (fun s => Q (-1) s) (m + 1) v (nI q) σ := by
    intro m
    induction m with
    | zero =>
      intro q hq
      obtain rfl : q = n := by omega
      exact ⟨fun _ => h, fun r => absurd (show rd σ 0 k 1 ≤ nI q from hk ▸ nI_le (Nat.le_refl q) (by omega)) r⟩
    | succ m ih =>
      intro q hq
      refine ⟨fun r => absurd (hk ▸ r) (nI_ge (show q < n by omega) (by omega)), fun _ => ⟨vp_in_nI (by omega) (by omega), fun _ v2 hv => ?_, fun r => ?_⟩⟩
      · subst hv
        rw [nI_1]
        exact ih (q + 1) (by omega)
      · rw [nI_clamp (by omega), hf q (by omega)] at r
        exact absurd r (h2 q (by omega))
  exact ⟨n + 1, key n 0 (by omega)⟩
