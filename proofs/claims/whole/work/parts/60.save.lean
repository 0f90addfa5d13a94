/-! save -/
theorem pC_56 {j : Nat} {σ : Mem} (I : Inv j σ) : wC_56 σ (Inv (j + 1)) := by
  obtain ⟨t, nT, nL, nC, nx, hj, hN, ⟨nB, nO, nP, F, S⟩, h3, ⟨h4, h5, h6, h7⟩, h8, h9, h10, h11, hZ⟩ := I
  unfold wC_56 wX12_save wX13_save
  refine w_stk (k := 2) (k2 := 0) (by decide) (by decide) (by decide) F.1.1 F.1.2.1 F.1.2.2.1 S (fun τ u1 u2 u3 => ?_)
  intro s3 hs3
  show ∀ s1 : Mem, s1 = wr s3 15 0 7 0 → wX13_copies 8 10 0 0 s1 (fun s => ∀ s4 : Mem, s4 = wr s 15 0 12 1 → rd s3 0 9 1 = rd s4 10 8 13 ∧ Inv (j + 1) s4) (fun _ _ => False)
  intro s1 hs1
  refine w_copies (A := 0) (B := 0) rfl rfl (by decide) (by decide) (by decide) (by decide) (fun e => absurd e (by decide)) (fun w hw => ?_)
  intro s4 hs4
  have g : ∀ f k s : Nat, ¬ SIn 2 f k → ¬ (f = 14 ∧ k = 0 ∧ s = 3) → ¬ (f = 15 ∧ k = 0 ∧ (s = 7 ∨ s = 12)) → ¬ (f = 10 ∧ k = 10) → rd s4 f k s = rd σ f k s := by
    intro f k s n1 n2 n3 n4
    rw [hs4, rd_wr, if_neg (by omega), hw.1, if_neg (by omega), hs1, rd_wr, if_neg (by omega), hs3, rd_wr, if_neg (by omega)]
    exact u1 f k s n1
  have gs : ∀ f k s : Nat, SIn 2 f k → rd s4 f k s = rd τ f k s := by
    intro f k s n1
    unfold SIn at n1
    rw [hs4, rd_wr, if_neg (by omega), hw.1, if_neg (by omega), hs1, rd_wr, if_neg (by omega), hs3, rd_wr, if_neg (by omega)]
  have g8 : rd s4 10 8 = rd σ 10 8 := funext fun s => g 10 8 s (by unfold SIn; omega) (by omega) (by omega) (by omega)
  have g10 : ∀ i : Nat, i < 90 → rd s4 10 10 i = rd σ 10 8 i := by
    intro i hi
    rw [hs4, rd_wr, if_neg (by omega), hw.1, if_pos ⟨rfl, rfl, by omega, by omega⟩, hs1, rd_wr, if_neg (by omega), hs3, rd_wr, if_neg (by omega), u1 10 8 _ (by unfold SIn; omega)]
    congr 1
    omega
  have g2 : s4.2 = σ.2 := by
    rw [hs4, wr_2, hw.2, hs1, wr_2, hs3, wr_2, u2]
  have gr : ∀ k : Nat, k ≠ 2 → ∀ f k' s : Nat, SIn k f k' → rd s4 f k' s = rd σ f k' s := by
    intro k hk f k' s hh
    unfold SIn at hh
    exact g f k' s (by unfold SIn; omega) (by omega) (by omega) (by omega)
  have g12 : rd s4 15 0 12 = 1 := by rw [hs4, rd_wr, if_pos ⟨rfl, rfl, rfl⟩]
  refine ⟨?_, t, nT, nL, nC, nx, by omega, hN, ?_, ⟨?_, Or.inr ⟨g12, ?_⟩⟩, ⟨?_, ?_, ?_, fun i hi => ?_⟩, ?_, ?_, ⟨?_, ?_⟩, ⟨?_, ?_⟩, fun k hk => ?_, fun m hm => ?_⟩
  · rw [g8, hs3, rd_wr, if_neg (by omega), u1 0 9 1 (by unfold SIn; omega)]
    exact S.2.2.2.1.trans F.1.2.2.2.2.2.symm
  · exact StOk.on (gr 0 (by decide)) (fun i _ => by rw [g8]) ⟨nB, nO, nP, F, S⟩
  · rw [g12, hs4, rd_wr, if_neg (by omega), hw.1, if_neg (by omega), hs1, rd_wr, if_neg (by omega), hs3, rd_wr, if_pos ⟨rfl, rfl, rfl⟩]
  · exact StOk.on gs g10 ⟨nB, nO, nP, F, u3⟩
  · rw [g 5 0 1 (by unfold SIn; omega) (by omega) (by omega) (by omega)]
    exact h4
  · rw [g 5 0 2 (by unfold SIn; omega) (by omega) (by omega) (by omega)]
    exact h5
  · rw [g 15 0 6 (by unfold SIn; omega) (by omega) (by omega) (by omega)]
    exact h6
  · exact StOk.on (gr _ (by omega)) (fun q _ => g 10 11 _ (by unfold SIn; omega) (by omega) (by omega) (by omega)) (h7 i hi)
  · rw [g 14 0 11 (by unfold SIn; omega) (by omega) (by omega) (by omega), g 15 0 8 (by unfold SIn; omega) (by omega) (by omega) (by omega)]
    exact h8
  · rw [g 14 0 12 (by unfold SIn; omega) (by omega) (by omega) (by omega), g 15 0 9 (by unfold SIn; omega) (by omega) (by omega) (by omega)]
    exact h9
  · exact h10.1.on (fun s => g 13 1 s (by unfold SIn; omega) (by omega) (by omega) (by omega)) (fun s => g 16 1 s (by unfold SIn; omega) (by omega) (by omega) (by omega)) (by rw [g2]) (fun i => g 10 14 i (by unfold SIn; omega) (by omega) (by omega) (by omega))
  · rw [g 15 0 14 (by unfold SIn; omega) (by omega) (by omega) (by omega)]
    exact h10.2
  · exact h11.1.on (fun s => g 13 0 s (by unfold SIn; omega) (by omega) (by omega) (by omega)) (fun s => g 16 0 s (by unfold SIn; omega) (by omega) (by omega) (by omega)) (by rw [g2]) (fun i => g 10 15 i (by unfold SIn; omega) (by omega) (by omega) (by omega))
  · rw [g 15 0 17 (by unfold SIn; omega) (by omega) (by omega) (by omega)]
    exact h11.2
  · exact (g 10 k 0 (by unfold SIn; omega) (by omega) (by omega) (by omega)).trans (hZ.1 k hk)
  · exact (g 10 12 m (by unfold SIn; omega) (by omega) (by omega) (by omega)).trans (hZ.2 m hm)
