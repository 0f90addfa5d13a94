/-! THE CASES OF THE CHANGES -/
theorem pC_0 {j : Nat} {σ : Mem} (I : Inv j σ) (a1 : Int32) (a2 : Int32) (a3 : Int32) : wC_0 a1 a2 a3 σ (Inv (j + 1)) := by
  refine chg I (c := 0) (L := [(1, 1), (2, 2), (3, 3)]) (wR := wX13_buys a1 a2 a3) (fun r h m => ?_) (fun t nB nO nP a _ F => op_0 a1 a2 a3 F) (K := fun k s => wX13_buyBale a1 a2 a3 s (fun bb s1 => wX13_thrown s1 (fun t s2 => t = k ∧ (k = 0 → rdL s2 = bb.toInt64) ∧ Inv (j + 1) s2) (fun _ _ => False)) (fun _ _ => False)) (fun k s hh => hh) (fun r h τ m hk => ?_)
  · simp only [List.mem_cons, List.mem_nil_iff, Prod.mk.injEq, or_false] at m
    rcases m with ⟨rfl, rfl⟩ | ⟨rfl, rfl⟩ | ⟨rfl, rfl⟩ <;> decide
  · simp only [List.mem_cons, List.mem_nil_iff, Prod.mk.injEq, or_false] at m
    rcases m with ⟨rfl, rfl⟩ | ⟨rfl, rfl⟩ | ⟨rfl, rfl⟩
    · exact Or.inl ⟨rfl, hk⟩
    · exact Or.inr (Or.inl ⟨rfl, hk⟩)
    · exact Or.inr (Or.inr (⟨rfl, hk⟩))
theorem pC_2 {j : Nat} {σ : Mem} (I : Inv j σ) (a1 : Int32) (a2 : Int32) : wC_2 a1 a2 σ (Inv (j + 1)) := by
  refine chg I (c := 2) (L := [(1, 1), (2, 2)]) (wR := wX13_opens a1 a2) (fun r h m => ?_) (fun t nB nO nP a _ F => op_2 a1 a2 F) (K := fun k s => wX13_addOrder a1 a2 s (fun bb s1 => wX13_thrown s1 (fun t s2 => t = k ∧ (k = 0 → rdL s2 = bb.toInt64) ∧ Inv (j + 1) s2) (fun _ _ => False)) (fun _ _ => False)) (fun k s hh => hh) (fun r h τ m hk => ?_)
  · simp only [List.mem_cons, List.mem_nil_iff, Prod.mk.injEq, or_false] at m
    rcases m with ⟨rfl, rfl⟩ | ⟨rfl, rfl⟩ <;> decide
  · simp only [List.mem_cons, List.mem_nil_iff, Prod.mk.injEq, or_false] at m
    rcases m with ⟨rfl, rfl⟩ | ⟨rfl, rfl⟩
    · exact Or.inl ⟨rfl, hk⟩
    · exact Or.inr (⟨rfl, hk⟩)
theorem pC_3 {j : Nat} {σ : Mem} (I : Inv j σ) (a1 : Int32) : wC_3 a1 σ (Inv (j + 1)) := by
  refine chg I (c := 3) (L := [(4, 1)]) (wR := wX13_cancels a1) (fun r h m => ?_) (fun t nB nO nP a _ F => op_3 a1 F) (K := fun k s => wX13_cancelOrder a1 s (fun bb s1 => wX13_thrown s1 (fun t s2 => t = k ∧ (k = 0 → rdL s2 = bb.toInt64) ∧ Inv (j + 1) s2) (fun _ _ => False)) (fun _ _ => False)) (fun k s hh => hh) (fun r h τ m hk => ?_)
  · simp only [List.mem_cons, List.mem_nil_iff, Prod.mk.injEq, or_false] at m
    rcases m with ⟨rfl, rfl⟩ <;> decide
  · simp only [List.mem_cons, List.mem_nil_iff, Prod.mk.injEq, or_false] at m
    rcases m with ⟨rfl, rfl⟩
    · exact ⟨rfl, hk⟩
theorem pC_4 {j : Nat} {σ : Mem} (I : Inv j σ) (a1 : Int32) : wC_4 a1 σ (Inv (j + 1)) := by
  refine chg I (c := 4) (L := [(1, 1)]) (wR := wX13_has a1) (fun r h m => ?_) (fun t nB nO nP a _ F => op_4 a1 F) (K := fun k s => wX13_setMachines a1 s (fun bb s1 => wX13_thrown s1 (fun t s2 => t = k ∧ (k = 0 → rdL s2 = bb.toInt64) ∧ Inv (j + 1) s2) (fun _ _ => False)) (fun _ _ => False)) (fun k s hh => hh) (fun r h τ m hk => ?_)
  · simp only [List.mem_cons, List.mem_nil_iff, Prod.mk.injEq, or_false] at m
    rcases m with ⟨rfl, rfl⟩ <;> decide
  · simp only [List.mem_cons, List.mem_nil_iff, Prod.mk.injEq, or_false] at m
    rcases m with ⟨rfl, rfl⟩
    · exact ⟨rfl, hk⟩
theorem pC_5 {j : Nat} {σ : Mem} (I : Inv j σ) (a1 : Int32) : wC_5 a1 σ (Inv (j + 1)) := by
  refine chg I (c := 5) (L := [(4, 1), (3, 2), (2, 3)]) (wR := wX13_spins a1) (fun r h m => ?_) (fun t nB nO nP a _ F => op_5 a1 F) (K := fun k s => wX13_spin a1 s (fun bb s1 => wX13_thrown s1 (fun t s2 => t = k ∧ (k = 0 → rdL s2 = bb.toInt64) ∧ Inv (j + 1) s2) (fun _ _ => False)) (fun _ _ => False)) (fun k s hh => hh) (fun r h τ m hk => ?_)
  · simp only [List.mem_cons, List.mem_nil_iff, Prod.mk.injEq, or_false] at m
    rcases m with ⟨rfl, rfl⟩ | ⟨rfl, rfl⟩ | ⟨rfl, rfl⟩ <;> decide
  · simp only [List.mem_cons, List.mem_nil_iff, Prod.mk.injEq, or_false] at m
    rcases m with ⟨rfl, rfl⟩ | ⟨rfl, rfl⟩ | ⟨rfl, rfl⟩
    · exact Or.inl ⟨rfl, hk⟩
    · exact Or.inr (Or.inl ⟨rfl, hk⟩)
    · exact Or.inr (Or.inr (⟨rfl, hk⟩))
theorem pC_6 {j : Nat} {σ : Mem} (I : Inv j σ) (a1 : Int32) : wC_6 a1 σ (Inv (j + 1)) := by
  refine chg I (c := 6) (L := [(5, 1)]) (wR := wX13_splices a1) (fun r h m => ?_) (fun t nB nO nP a _ F => op_6 a1 F) (K := fun k s => wX13_splice a1 s (fun bb s1 => wX13_thrown s1 (fun t s2 => t = k ∧ (k = 0 → rdL s2 = bb.toInt64) ∧ Inv (j + 1) s2) (fun _ _ => False)) (fun _ _ => False)) (fun k s hh => hh) (fun r h τ m hk => ?_)
  · simp only [List.mem_cons, List.mem_nil_iff, Prod.mk.injEq, or_false] at m
    rcases m with ⟨rfl, rfl⟩ <;> decide
  · simp only [List.mem_cons, List.mem_nil_iff, Prod.mk.injEq, or_false] at m
    rcases m with ⟨rfl, rfl⟩
    · exact ⟨rfl, hk⟩
theorem pC_8 {j : Nat} {σ : Mem} (I : Inv j σ) (a1 : Int32) : wC_8 a1 σ (Inv (j + 1)) := by
  refine chg I (c := 8) (L := [(5, 1)]) (wR := wX13_sells a1) (fun r h m => ?_) (fun t nB nO nP a _ F => op_8 a1 F) (K := fun k s => wX13_sell a1 s (fun bb s1 => wX13_thrown s1 (fun t s2 => t = k ∧ (k = 0 → rdL s2 = bb.toInt64) ∧ Inv (j + 1) s2) (fun _ _ => False)) (fun _ _ => False)) (fun k s hh => hh) (fun r h τ m hk => ?_)
  · simp only [List.mem_cons, List.mem_nil_iff, Prod.mk.injEq, or_false] at m
    rcases m with ⟨rfl, rfl⟩ <;> decide
  · simp only [List.mem_cons, List.mem_nil_iff, Prod.mk.injEq, or_false] at m
    rcases m with ⟨rfl, rfl⟩
    · exact ⟨rfl, hk⟩
