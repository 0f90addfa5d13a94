/-! THE START OF THE INVARIANT, AND THE PLAIN ANSWERS -/
theorem inv_start (hb : Nat) : Inv 0 (mem0 hb) := by
  refine ⟨0, 0, 0, 0, 0, Nat.le_refl _, ⟨by decide, by decide, by decide, by decide⟩, ⟨0, 0, 0, ?_, ?_⟩, ⟨rfl, Or.inl rfl⟩, ⟨rfl, rfl, rfl, fun i hi => absurd hi (Nat.not_lt_zero i)⟩, ⟨rfl, Or.inl rfl⟩, ⟨rfl, Or.inl rfl⟩, ⟨⟨rfl, rfl, Nat.zero_le _, Or.inl rfl, fun i hi => absurd hi (Nat.not_lt_zero i), fun i _ => by rfl⟩, rfl⟩, ⟨⟨rfl, rfl, Nat.zero_le _, Or.inl rfl, fun i hi => absurd hi (Nat.not_lt_zero i), fun i _ => by rfl⟩, rfl⟩, fun k hk => by
    match k, hk with
    | 0, _ => rfl
    | 1, _ => rfl
    | 2, _ => rfl
    | 3, _ => rfl, fun m hm => by
    match m, hm with
    | 0, _ => rfl
    | 1, _ => rfl
    | 2, _ => rfl⟩
  · refine ⟨⟨by decide, by decide, by decide, rfl, rfl, rfl⟩, ⟨1, by decide, by decide, rfl⟩, ⟨0, by decide, rfl⟩, ⟨0, Nat.le_refl _, rfl⟩, ⟨0, Nat.le_refl _, rfl⟩, fun q hq => absurd hq (Nat.not_lt_zero q), fun q hq => absurd hq (Nat.not_lt_zero q), ⟨fun _ => 0, fun q hq => absurd hq (Nat.not_lt_zero q), Nat.le_refl _, ?_⟩, ?_⟩
    · show (0 : Int32) - 0 - 0 = nI 0
      decide
    · show (1000 : Int32) = 1000 - 0 + 0
      decide
  · exact ⟨⟨rfl, rfl, rfl, rfl, rfl, rfl, rfl, rfl, rfl, rfl, rfl⟩, fun _ _ => rfl, fun _ _ => rfl, rfl, fun q hq => absurd hq (Nat.not_lt_zero q), fun q hq => absurd hq (Nat.not_lt_zero q), fun q hq => absurd hq (Nat.not_lt_zero q)⟩
/-- what the invariant says of the stock itself -/
theorem Inv.st {j : Nat} {σ : Mem} (I : Inv j σ) : ∃ t nB nO nP : Nat, t ≤ j ∧ Fits t nB nO nP (rd σ 10 8) ∧ Same σ 0 nB nO nP (rd σ 10 8) := by
  obtain ⟨t, nT, nL, nC, nx, h1, -, ⟨nB, nO, nP, h2, h3⟩, -⟩ := I
  exact ⟨t, nB, nO, nP, by omega, h2, h3⟩
theorem kp7 (σ : Mem) (v : Int32) : Kp σ (wr σ 15 0 7 v) := Kp.wr rfl
theorem pC_9 {j : Nat} {σ : Mem} (I : Inv j σ) : wC_9 σ (Inv (j + 1)) := by
  obtain ⟨t, nB, nO, nP, -, F, S⟩ := I.st
  intro s1 hs1
  subst hs1
  refine ⟨?_, I.to (kp7 σ 0)⟩
  exact (S.2.1 0 (by decide)).trans F.1.2.2.2.1.symm
theorem pC_18 {j : Nat} {σ : Mem} (I : Inv j σ) : wC_18 σ (Inv (j + 1)) := by
  obtain ⟨t, nB, nO, nP, -, F, S⟩ := I.st
  intro s1 hs1
  subst hs1
  refine ⟨?_, I.to (kp7 σ 0)⟩
  exact (S.2.2.1 0 (by decide)).trans F.1.2.2.2.2.1.symm
theorem pC_28 {j : Nat} {σ : Mem} (I : Inv j σ) : wC_28 σ (Inv (j + 1)) := by
  obtain ⟨t, nB, nO, nP, -, F, S⟩ := I.st
  intro s1 hs1
  subst hs1
  refine ⟨?_, I.to (kp7 σ 0)⟩
  exact S.2.2.2.1.trans F.1.2.2.2.2.2.symm
theorem pC_35 {j : Nat} {σ : Mem} (I : Inv j σ) : wC_35 σ (Inv (j + 1)) := by
  obtain ⟨t, nB, nO, nP, -, F, S⟩ := I.st
  intro s1 hs1
  subst hs1
  refine ⟨?_, I.to (kp7 σ 0)⟩
  exact S.1.2.1
theorem pC_36 {j : Nat} {σ : Mem} (I : Inv j σ) : wC_36 σ (Inv (j + 1)) := by
  obtain ⟨t, nB, nO, nP, -, F, S⟩ := I.st
  intro s1 hs1
  subst hs1
  refine ⟨?_, I.to (kp7 σ 0)⟩
  exact S.1.2.2.2.1
theorem pC_37 {j : Nat} {σ : Mem} (I : Inv j σ) : wC_37 σ (Inv (j + 1)) := by
  obtain ⟨t, nB, nO, nP, -, F, S⟩ := I.st
  intro s1 hs1
  subst hs1
  refine ⟨?_, I.to (kp7 σ 0)⟩
  exact S.1.2.2.1
theorem pC_38 {j : Nat} {σ : Mem} (I : Inv j σ) : wC_38 σ (Inv (j + 1)) := by
  obtain ⟨t, nB, nO, nP, -, F, S⟩ := I.st
  intro s1 hs1
  subst hs1
  refine ⟨?_, I.to (kp7 σ 0)⟩
  exact S.1.1
theorem pC_39 {j : Nat} {σ : Mem} (I : Inv j σ) : wC_39 σ (Inv (j + 1)) := by
  obtain ⟨t, nB, nO, nP, -, F, S⟩ := I.st
  intro s1 hs1
  subst hs1
  refine ⟨?_, I.to (kp7 σ 0)⟩
  show (1000 - rd σ 4 0 7) + rd σ 4 0 8 = (1000 - rd σ 10 8 4) + rd σ 10 8 5
  rw [S.1.2.2.2.2.1, S.1.2.2.2.2.2.1]
theorem pC_40 {j : Nat} {σ : Mem} (I : Inv j σ) : wC_40 σ (Inv (j + 1)) := by
  obtain ⟨t, nB, nO, nP, -, F, S⟩ := I.st
  intro s1 hs1
  subst hs1
  refine ⟨?_, I.to (kp7 σ 0)⟩
  exact S.1.2.2.2.2.2.2.1
theorem pC_41 {j : Nat} {σ : Mem} (I : Inv j σ) : wC_41 σ (Inv (j + 1)) := by
  obtain ⟨t, nB, nO, nP, -, F, S⟩ := I.st
  intro s1 hs1
  subst hs1
  refine ⟨?_, I.to (kp7 σ 0)⟩
  exact S.1.2.2.2.2.2.2.2.1
theorem pC_42 {j : Nat} {σ : Mem} (I : Inv j σ) : wC_42 σ (Inv (j + 1)) := by
  obtain ⟨t, nB, nO, nP, -, F, S⟩ := I.st
  intro s1 hs1
  subst hs1
  refine ⟨?_, I.to (kp7 σ 0)⟩
  exact S.1.2.2.2.2.2.2.2.2.1
theorem pC_44 {j : Nat} {σ : Mem} (I : Inv j σ) : wC_44 σ (Inv (j + 1)) := by
  obtain ⟨t, nB, nO, nP, -, F, S⟩ := I.st
  intro s1 hs1
  subst hs1
  refine ⟨?_, I.to (kp7 σ 0)⟩
  show (rd σ 4 0 9 - rd σ 4 0 11) - rd σ 4 0 10 = (rd σ 10 8 6 - rd σ 10 8 8) - rd σ 10 8 7
  rw [S.1.2.2.2.2.2.2.1, S.1.2.2.2.2.2.2.2.1, S.1.2.2.2.2.2.2.2.2.1]
