/-! THE SHELF RENDERED -/
def ln (p : Nat → Nat) : Nat → Nat
  | 0 => 0
  | q + 1 => ln p q + (if q = 0 then 0 else 1) + dN (p q)
def tc (p : Nat → Nat) : Nat → Nat → Nat
  | 0, _ => 0
  | q + 1, i => if i < ln p q then tc p q i else if q ≠ 0 ∧ i = ln p q then 45 else dc (p q) (dN (p q)) (i - (ln p q + (if q = 0 then 0 else 1)))
theorem ln_b (p : Nat → Nat) (q : Nat) : ln p q ≤ 6 * q := by
  induction q with
  | zero => exact Nat.le_refl 0
  | succ q ih =>
    have := (dN_pos (p q)).2
    unfold ln
    split <;> omega
theorem tc_b (p : Nat → Nat) (q i : Nat) : tc p q i < 128 := by
  induction q with
  | zero => exact show 0 < 128 by decide
  | succ q ih =>
    unfold tc
    split
    · exact ih
    · split
      · decide
      · exact dc_b _ _ _
theorem tc_low {p : Nat → Nat} {q i : Nat} (h : i < ln p q) : tc p (q + 1) i = tc p q i := if_pos h
theorem tc_bar {p : Nat → Nat} {q : Nat} (h : q ≠ 0) : tc p (q + 1) (ln p q) = 45 := by
  unfold tc
  rw [if_neg (Nat.lt_irrefl _), if_pos ⟨h, rfl⟩]
theorem tc_dig {p : Nat → Nat} {q i : Nat} (hi : i < dN (p q)) : tc p (q + 1) (ln p q + (if q = 0 then 0 else 1) + i) = dc (p q) (dN (p q)) i := by
  unfold tc
  by_cases c : q = 0
  · subst c
    rw [if_pos rfl, if_neg (by omega), if_neg (by omega)]
    congr 1
    omega
  · rw [if_neg c, if_neg (by omega), if_neg (by omega)]
    congr 1
    omega
theorem w_shelfC {n : Nat} {p : Nat → Nat} {σ : Mem} {Q : Int32 → Mem → Prop} {E : String → Mem → Prop} {X : Mem → Prop} (hn : n ≤ 12) (hp : ∀ q : Nat, q < n → p q < 100000) (h9 : rd σ 0 9 1 = nI n) (hr : ∀ q : Nat, q < n → rd σ 1 9 q = nI (p q)) (W : WB σ 1 0)
    (h : ∀ τ : Mem, FX 1 σ τ → WB τ 1 (ln p n) → (∀ i : Nat, i < ln p n → rd τ 16 1 i = nI (tc p n i)) → X τ) : wX12_renderShelf_10 Q E X (n + 1) 0 σ := by
  have key : ∀ (m q : Nat) (σ' : Mem), q + m = n → FX 1 σ σ' → WB σ' 1 (ln p q) → (∀ i : Nat, i < ln p q → rd σ' 16 1 i = nI (tc p q i)) → wX12_renderShelf_10 Q E X (m + 1) (nI q) σ' := by
    intro m
    induction m with
    | zero =>
      intro q σ' hq p1 p2 p3
      obtain rfl : q = n := by omega
      have e9 : rd σ' 0 9 1 = nI q := (p1.1 0 9 1 (by omega)).trans h9
      exact ⟨fun _ => h σ' p1 p2 p3, fun r => absurd (show rd σ' 0 9 1 ≤ nI q from e9 ▸ nI_le (Nat.le_refl q) (by omega)) r⟩
    | succ m ih =>
      intro q σ' hq p1 p2 p3
      have e9 : rd σ' 0 9 1 = nI n := (p1.1 0 9 1 (by omega)).trans h9
      have er : rd σ' 1 9 q = nI (p q) := (p1.1 1 9 q (by omega)).trans (hr q (by omega))
      have lb := ln_b p q
      have db := dN_pos (p q)
      have el : ln p (q + 1) = ln p q + (if q = 0 then 0 else 1) + dN (p q) := rfl
      refine ⟨fun r => absurd (show nI n ≤ nI q from e9 ▸ r) (nI_ge (by omega) (by omega)), fun _ => ⟨fun c => ?_, fun c => ?_⟩⟩
      · have q0 : q = 0 := by
          by_cases c0 : q = 0
          · exact c0
          · exact absurd c (nI_nle (by omega) (by omega))
        refine w_get (k := 9) (n := n) (i := q) e9 (by omega) hn rfl ?_
        rw [er]
        rw [if_pos q0, show ln p q + 0 = ln p q from rfl] at el
        refine w_appI p2 rfl (hp q (by omega)) (by omega) (fun τ t1 t2 t3 t4 v hv => ?_)
        rw [nI_1] at hv
        rw [hv]
        refine ih (q + 1) τ (by omega) (p1.tr t1) (by rw [el]; exact t2) (fun i hi => ?_)
        by_cases c2 : i < ln p q
        · rw [t3 i c2, p3 i c2, tc_low c2]
        · obtain ⟨j, rfl⟩ : ∃ j, i = ln p q + j := ⟨i - ln p q, by omega⟩
          have hd := tc_dig (p := p) (q := q) (i := j) (by omega)
          rw [if_pos q0, show ln p q + 0 = ln p q from rfl] at hd
          rw [t4 j (by omega), hd]
      · have q0 : q ≠ 0 := by
          intro c0
          subst c0
          exact c (by decide)
        rw [if_neg q0] at el
        refine w_appC (c := 45) p2 rfl (by decide) (by omega) (fun τ t1 t2 t3 t4 => ?_)
        refine w_get (k := 9) (n := n) (i := q) ((t1.1 0 9 1 (by omega)).trans e9) (by omega) hn rfl ?_
        rw [t1.1 1 9 q (by omega), er]
        refine w_appI t2 rfl (hp q (by omega)) (by omega) (fun y y1 y2 y3 y4 v hv => ?_)
        rw [nI_1] at hv
        rw [hv]
        refine ih (q + 1) y (by omega) (p1.tr (t1.tr y1)) (by rw [el]; exact y2) (fun i hi => ?_)
        by_cases c2 : i < ln p q
        · rw [y3 i (by omega), t3 i c2, p3 i c2, tc_low c2]
        · by_cases c3 : i = ln p q
          · rw [c3, y3 _ (by omega), t4, tc_bar q0]
          · obtain ⟨j, rfl⟩ : ∃ j, i = ln p q + 1 + j := ⟨i - ln p q - 1, by omega⟩
            have hd := tc_dig (p := p) (q := q) (i := j) (by omega)
            rw [if_neg q0] at hd
            rw [y4 j (by omega), hd]
  exact key n 0 σ (by omega) (FX.rf 1 σ) W (fun i hi => absurd hi (Nat.not_lt_zero i))
