/-! restore -/
theorem pC_57 {j : Nat} {σ : Mem} (I : Inv j σ) : wC_57 σ (Inv (j + 1)) := by
  have I0 := I
  obtain ⟨t, nT, nL, nC, nx, hj, hN, h2, h3, ⟨h4, h5, h6, h7⟩, h8, h9, h10, h11, hZ⟩ := I
  unfold wC_57 wL_restore wX12_restore wX13_restore
  rcases h3.2 with z | ⟨z, ⟨nB, nO, nP, F, S⟩⟩
  · refine ⟨fun q => absurd (h3.1.trans z) q, fun _ => ⟨rfl, fun q => absurd z q, fun _ => w_thr1 ⟨fun q => absurd q (by decide), fun _ => ⟨rfl, fun q => absurd q (by decide), I0.to (kp7 σ 1)⟩⟩⟩⟩
  · have zs : rd σ 14 0 3 = 1 := h3.1.trans z
    refine ⟨fun _ => ?_, fun q => absurd (zs.symm.trans q) (by decide)⟩
    refine w_stk (k := 0) (k2 := 2) (by decide) (by decide) (by decide) F.1.1 F.1.2.1 F.1.2.2.1 S (fun τ u1 u2 u3 => ?_)
    intro s1 hs1
    have k12 : rd s1 15 0 12 = 1 := by
      rw [hs1, rd_wr, if_neg (by omega), u1 15 0 12 (by unfold SIn; omega)]
      exact z
    refine ⟨fun _ => w_thr0 ⟨fun _ => w_copies (A := 0) (B := 0) rfl rfl (by decide) (by decide) (by decide) (by decide) (fun e => absurd e (by decide)) (fun w hw => ?_), fun q => absurd rfl q⟩, fun q => absurd (k12.symm.trans q) (by decide)⟩
    intro s5 hs5
    have el : ∀ (x : Int64) (f k s : Nat), rd (wr (wrL s1 x) 15 0 7 0) f k s = if f = 15 ∧ k = 0 ∧ s = 7 then 0 else rd s1 f k s := fun _ _ _ _ => rfl
    have g : ∀ f k s : Nat, ¬ SIn 0 f k → ¬ (f = 5 ∧ k = 0 ∧ s = 2) → ¬ (f = 15 ∧ k = 0 ∧ (s = 7 ∨ s = 6)) → ¬ (f = 10 ∧ k = 8) → rd s5 f k s = rd σ f k s := by
      intro f k s n1 n2 n3 n4
      rw [hs5, rd_wr, if_neg (by omega), hw.1, if_neg (by omega), el, if_neg (by omega), hs1, rd_wr, if_neg (by omega)]
      exact u1 f k s n1
    have gs : ∀ f k s : Nat, SIn 0 f k → rd s5 f k s = rd τ f k s := by
      intro f k s n1
      unfold SIn at n1
      rw [hs5, rd_wr, if_neg (by omega), hw.1, if_neg (by omega), el, if_neg (by omega), hs1, rd_wr, if_neg (by omega)]
    have g8 : ∀ i : Nat, i < 90 → rd s5 10 8 i = rd σ 10 10 i := by
      intro i hi
      rw [hs5, rd_wr, if_neg (by omega), hw.1, if_pos ⟨rfl, rfl, by omega, by omega⟩, el, if_neg (by omega), hs1, rd_wr, if_neg (by omega), u1 10 10 _ (by unfold SIn; omega)]
      congr 1
      omega
    have g10 : rd s5 10 10 = rd σ 10 10 := funext fun s => g 10 10 s (by unfold SIn; omega) (by omega) (by omega) (by omega)
    have g2 : s5.2.2.1 = σ.2.2.1 := by
      rw [hs5, wr_2, hw.2]
      show s1.2.2.1 = _
      rw [hs1, wr_2, u2]
    have gr : ∀ k : Nat, k ≠ 0 → ∀ f k' s : Nat, SIn k f k' → rd s5 f k' s = rd σ f k' s := by
      intro k hk f k' s hh
      unfold SIn at hh
      exact g f k' s (by unfold SIn; omega) (by omega) (by omega) (by omega)
    refine ⟨?_, fun _ => ?_, t, nT, nL, 0, nx, by omega, ⟨hN.1, hN.2.1, Nat.zero_le _, hN.2.2.2⟩, ?_, ⟨?_, Or.inr ⟨?_, ?_⟩⟩, ⟨?_, ?_, ?_, fun i hi => absurd hi (Nat.not_lt_zero i)⟩, ?_, ?_, ⟨?_, ?_⟩, ⟨?_, ?_⟩, fun k hk => ?_, fun m hm => ?_⟩
    · rw [hs5, rd_wr, if_neg (by omega), hw.1, if_neg (by omega), el, if_pos ⟨rfl, rfl, rfl⟩]
    · have e1 : rdL s5 = (rd s1 0 9 1).toInt64 := by
        rw [hs5]
        show w.2.2.2.1 0 = _
        rw [hw.2]
        rfl
      rw [e1, g8 13 (by decide), hs1, rd_wr, if_neg (by omega)]
      exact congrArg Int32.toInt64 (u3.2.2.2.1.trans F.1.2.2.2.2.2.symm)
    · exact StOk.on gs g8 ⟨nB, nO, nP, F, u3⟩
    · rw [g 14 0 3 (by unfold SIn; omega) (by omega) (by omega) (by omega), g 15 0 12 (by unfold SIn; omega) (by omega) (by omega) (by omega)]
      exact h3.1
    · rw [g 15 0 12 (by unfold SIn; omega) (by omega) (by omega) (by omega)]
      exact z
    · exact StOk.on (gr 2 (by decide)) (fun i _ => by rw [g10]) ⟨nB, nO, nP, F, S⟩
    · rw [g 5 0 1 (by unfold SIn; omega) (by omega) (by omega) (by omega)]
      exact h4
    · rw [hs5, rd_wr, if_neg (by omega), hw.1, if_neg (by omega), el, if_neg (by omega), hs1, rd_wr, if_pos ⟨rfl, rfl, rfl⟩]
      rfl
    · rw [hs5, rd_wr, if_pos ⟨rfl, rfl, rfl⟩]
      rfl
    · rw [g 14 0 11 (by unfold SIn; omega) (by omega) (by omega) (by omega), g 15 0 8 (by unfold SIn; omega) (by omega) (by omega) (by omega)]
      exact h8
    · rw [g 14 0 12 (by unfold SIn; omega) (by omega) (by omega) (by omega), g 15 0 9 (by unfold SIn; omega) (by omega) (by omega) (by omega)]
      exact h9
    · exact h10.1.on (fun s => g 13 1 s (by unfold SIn; omega) (by omega) (by omega) (by omega)) (fun s => g 16 1 s (by unfold SIn; omega) (by omega) (by omega) (by omega)) g2 (fun i => g 10 14 i (by unfold SIn; omega) (by omega) (by omega) (by omega))
    · rw [g 15 0 14 (by unfold SIn; omega) (by omega) (by omega) (by omega)]
      exact h10.2
    · exact h11.1.on (fun s => g 13 0 s (by unfold SIn; omega) (by omega) (by omega) (by omega)) (fun s => g 16 0 s (by unfold SIn; omega) (by omega) (by omega) (by omega)) g2 (fun i => g 10 15 i (by unfold SIn; omega) (by omega) (by omega) (by omega))
    · rw [g 15 0 17 (by unfold SIn; omega) (by omega) (by omega) (by omega)]
      exact h11.2
    · exact (g 10 k 0 (by unfold SIn; omega) (by omega) (by omega) (by omega)).trans (hZ.1 k hk)
    · exact (g 10 12 m (by unfold SIn; omega) (by omega) (by omega) (by omega)).trans (hZ.2 m hm)
