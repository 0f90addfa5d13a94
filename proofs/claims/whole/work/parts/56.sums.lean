/-! SUMS, AND THE REFERENCE'S COPIES -/
theorem w_sum {k n : Nat} {p : Nat → Nat} {σ : Mem} {Q : Int32 → Mem → Prop} {E : String → Mem → Prop} (hk : rd σ 0 k 1 = nI n) (hn : n ≤ rowCap k) (hf : ∀ q : Nat, q < n → rd σ 1 k q = nI (p q)) (h : Q (nI (sumN p n)) σ) : wX7_sum k σ Q E := by
  have hc := rowCap_le k
  have key : ∀ m q : Nat, q + m = n → wX7_sum_4 k Q E (fun x s => Q x s) (m + 1) (nI (sumN p q)) (nI q) σ := by
    intro m
    induction m with
    | zero =>
      intro q hq
      obtain rfl : q = n := by omega
      exact ⟨fun _ => h, fun r => absurd (show rd σ 0 k 1 ≤ nI q from hk ▸ nI_le (Nat.le_refl q) (by omega)) r⟩
    | succ m ih =>
      intro q hq
      refine ⟨fun r => absurd (hk ▸ r) (nI_ge (show q < n by omega) (by omega)), fun _ => ⟨vp_in_nI (by omega) (by omega), fun v1 h1 v2 h2 => ?_⟩⟩
      rw [nI_clamp (by omega), hf q (by omega), nI_add] at h1
      rw [nI_1] at h2
      subst h1
      subst h2
      exact ih (q + 1) (by omega)
  exact ⟨n + 1, key n 0 (by omega)⟩
theorem w_onShelf {n : Nat} {p : Nat → Nat} {σ : Mem} {Q : Int32 → Mem → Prop} {E : String → Mem → Prop} (hk : rd σ 10 8 13 = nI n) (hn : n ≤ 12) (hf : ∀ q : Nat, q < n → rd σ 10 8 (78 + q) = nI (p q)) (h : Q (nI (sumN p n)) σ) : wX13_onShelf σ Q E := by
  have key : ∀ m q : Nat, q + m = n → wX13_onShelf_4 Q E (fun x s => Q x s) (m + 1) (nI (sumN p q)) (nI q) σ := by
    intro m
    induction m with
    | zero =>
      intro q hq
      obtain rfl : q = n := by omega
      exact ⟨fun _ => h, fun r => absurd (show rd σ 10 8 13 ≤ nI q from hk ▸ nI_le (Nat.le_refl q) (by omega)) r⟩
    | succ m ih =>
      intro q hq
      refine ⟨fun r => absurd (hk ▸ r) (nI_ge (show q < n by omega) (by omega)), fun _ => ⟨(piece_ix (show q < 12 by omega)).1, fun v1 h1 v2 h2 => ?_⟩⟩
      rw [(piece_ix (show q < 12 by omega)).2, hf q (by omega), nI_add] at h1
      rw [nI_1] at h2
      subst h1
      subst h2
      exact ih (q + 1) (by omega)
  exact ⟨n + 1, key n 0 (by omega)⟩
theorem pC_43 {j : Nat} {σ : Mem} (I : Inv j σ) : wC_43 σ (Inv (j + 1)) := by
  obtain ⟨t, nB, nO, nP, -, F, S⟩ := I.st
  obtain ⟨p, hp, -, -⟩ := F.2.2.2.2.2.2.2.1
  unfold wC_43 wX12_shelfLength wX13_shelfLength
  refine w_sum (k := 9) (p := p) S.2.2.2.1 F.1.2.2.1 (fun q hq => (S.2.2.2.2.2.2 q hq).trans (hp q hq).2) ?_
  intro s1 hs1
  subst hs1
  exact w_onShelf (p := p) F.1.2.2.2.2.2 F.1.2.2.1 (fun q hq => (hp q hq).2) ⟨rfl, I.to (kp7 σ 0)⟩
/-- what a copy of a row of the reference leaves -/
def Cp90 (σ τ : Mem) (k k2 A B : Nat) : Prop := (∀ f k' s : Nat, rd τ f k' s = if f = 10 ∧ k' = k2 ∧ B ≤ s ∧ s < B + 90 then rd σ 10 k (A + (s - B)) else rd σ f k' s) ∧ τ.2 = σ.2
theorem w_copies {k k2 A B : Nat} {a b : Int32} {σ : Mem} {Q : Mem → Prop} {E : String → Mem → Prop} (ha : a = nI A) (hb : b = nI B) (hA : A + 90 ≤ iaLen k) (hB : B + 90 ≤ iaLen k2) (hk : iaLen k ≤ 2000) (hk2 : iaLen k2 ≤ 2000) (hd : k = k2 → B + 90 ≤ A) (h : ∀ τ : Mem, Cp90 σ τ k k2 A B → Q τ) : wX13_copies k k2 a b σ Q E := by
  subst ha
  subst hb
  have key : ∀ m i : Nat, ∀ σ' : Mem, i + m = 90 → (∀ f k' s : Nat, rd σ' f k' s = if f = 10 ∧ k' = k2 ∧ B ≤ s ∧ s < B + i then rd σ 10 k (A + (s - B)) else rd σ f k' s) → σ'.2 = σ.2 → wX13_copies_3 k k2 Q E (fun s => Q s) (m + 1) (nI A) (nI B) (nI i) σ' := by
    intro m
    induction m with
    | zero =>
      intro i σ' hi h1 h2
      obtain rfl : i = 90 := by omega
      exact ⟨fun _ => h σ' ⟨h1, h2⟩, fun r => absurd (show (90 : Int32) ≤ nI 90 by decide) r⟩
    | succ m ih =>
      intro i σ' hi h1 h2
      refine ⟨fun r => absurd (show nI 90 ≤ nI i from r) (nI_ge (by omega) (by omega)), fun _ => ?_⟩
      rw [nI_add, nI_add, nI_clamp (by omega), nI_clamp (by omega)]
      refine ⟨vp_in_nI (by omega) (by omega), vp_in_nI (by omega) (by omega), fun s1 hs1 v hv => ?_⟩
      rw [nI_1] at hv
      subst hs1
      subst hv
      refine ih (i + 1) _ (by omega) (fun f k' s => ?_) h2
      have e : rd σ' 10 k (A + i) = rd σ 10 k (A + i) := by
        rw [h1, if_neg]
        rintro ⟨-, q1, q2, q3⟩
        have := hd q1
        omega
      rw [rd_wr, e]
      by_cases c : f = 10 ∧ k' = k2 ∧ s = B + i
      · obtain ⟨rfl, rfl, rfl⟩ := c
        rw [if_pos ⟨rfl, rfl, rfl⟩, if_pos ⟨rfl, rfl, by omega, by omega⟩, show B + i - B = i by omega]
      · rw [if_neg c, h1]
        by_cases c2 : f = 10 ∧ k' = k2 ∧ B ≤ s ∧ s < B + i
        · rw [if_pos c2, if_pos ⟨c2.1, c2.2.1, c2.2.2.1, by omega⟩]
        · rw [if_neg c2, if_neg]
          rintro ⟨q1, q2, q3, q4⟩
          by_cases c3 : s = B + i
          · exact c ⟨q1, q2, c3⟩
          · exact c2 ⟨q1, q2, q3, by omega⟩
  refine ⟨91, key 90 0 σ rfl (fun f k' s => ?_) rfl⟩
  rw [if_neg]
  rintro ⟨-, -, q1, q2⟩
  omega
