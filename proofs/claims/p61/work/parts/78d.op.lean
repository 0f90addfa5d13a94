/-! A CHANGE OF THE CLASS -/
theorem op_3 {t nB nO nP : Nat} {a : Nat → Int32} (x1 : Int32) (ht : t ≤ 512) (F : Fits t nB nO nP a) (G : Srt t nB nO a) : Ch 3 x1 0 0 [4] t nB nO nP a := by
  have hB := F.1.1
  have hO := F.1.2.1
  have hP := F.1.2.2.1
  have e12 : a 12 = nI nO := F.1.2.2.2.2.1
  rcases fst_or (fun q => a (54 + 3 * q)) x1 nO with ⟨p, hp, e1, e2⟩ | hno
  rotate_left
  · refine Or.inl ⟨4, by simp, fun σ Q E S _ h => ?_⟩
    · exact ⟨fun q => absurd q (by decide), fun q => absurd q (by decide), fun q => absurd q (by decide), fun _ => w_find_no (k := 5) (n := nO) (f := fun q => a (54 + 3 * q)) (S.rO 0 (by decide)).1 hO (S.rO 0 (by decide)).2 hno ⟨fun _ => ⟨fun _ => h σ (FrS.rf σ), fun q => absurd rfl q⟩, fun q => absurd (by decide) q⟩, fun q => absurd q (by decide), fun q => absurd q (by decide), fun q => absurd q (by decide), fun q => absurd q (by decide), fun q => absurd q (by decide)⟩
  obtain ⟨n, rfl⟩ : ∃ n, nO = n + 1 := ⟨nO - 1, by omega⟩
  refine Or.inr ⟨nB, n, nP, r_canc a p n, nI n, ⟨(F.mono (Nat.le_succ t)).canc hp, ?_, ?_⟩, fun σ Q E S _ h => ?_, fun σ Q E S _ h => ?_⟩
  · have o : ∀ s : Nat, s ≠ 12 → (s < 54 ∨ 78 ≤ s) → r_canc a p n s = a s := fun s h h2 => canc_o (by omega) h h2
    exact ⟨by rw [o 0 (by omega) (by omega)]; exact G.1.up, G.2.1.cg (Nat.le_succ t) (fun q hq => o _ (by omega) (by omega)) (o 9 (by omega) (by omega)), G.2.2.del (Nat.le_succ t) hp (fun q hq => canc_q (d := 0) hp hO hq (by decide)) (o 10 (by omega) (by omega))⟩
  · exact ⟨n, by omega, rfl⟩
  · refine ⟨fun q => absurd q (by decide), fun q => absurd q (by decide), fun q => absurd q (by decide), fun _ => w_find_at (k := 5) (n := n + 1) (f := fun q => a (54 + 3 * q)) (S.rO 0 (by decide)).1 hO (S.rO 0 (by decide)).2 hp e1 e2 ?_, fun q => absurd q (by decide), fun q => absurd q (by decide), fun q => absurd q (by decide), fun q => absurd q (by decide), fun q => absurd q (by decide)⟩
    exact w_has (k := 5) (n := n + 1) (by omega) (S.rO 0 (by decide)).1 (fun _ _ _ => ⟨fun q => absurd q (by decide), fun _ => h σ (FrS.rf σ)⟩) (fun hb => absurd hb (no_ix hp (by omega) rfl))
  · refine ⟨fun q => absurd q (by decide), fun q => absurd q (by decide), fun q => absurd q (by decide), fun _ => w_find_at (k := 5) (n := n + 1) (f := fun q => a (54 + 3 * q)) (S.rO 0 (by decide)).1 hO (S.rO 0 (by decide)).2 hp e1 e2 ?_, fun q => absurd q (by decide), fun q => absurd q (by decide), fun q => absurd q (by decide), fun q => absurd q (by decide), fun q => absurd q (by decide)⟩
    refine w_close rfl hp hO (fun i hi => (S.rO i hi).1) (fun τ u1 u2 u3 => ?_)
    obtain ⟨z6, z3, z5, z4, z7, z8, z9, z10, z11, y2, y3⟩ := S.1
    have o : ∀ s : Nat, s ≠ 12 → (s < 54 ∨ 78 ≤ s) → r_canc a p n s = a s := fun s h h2 => canc_o (by omega) h h2
    refine h τ ⟨fun f k s m m2 => u1 f k s (by unfold SIn at m; omega), u2⟩ (Same.mk0 ⟨?_, ?_, ?_, ?_, ?_, ?_, ?_, ?_, ?_, ?_, ?_⟩ (fun i hi => ⟨?_, fun q hq => ?_⟩) (fun i hi => ⟨(u3 i hi).1, fun q hq => ?_⟩) ⟨?_, fun q hq => ?_⟩)
    · rw [u1 4 0 6 (by omega), o 0 (by omega) (by omega)]; exact z6
    · rw [u1 4 0 3 (by omega), o 1 (by omega) (by omega)]; exact z3
    · rw [u1 4 0 5 (by omega), o 2 (by omega) (by omega)]; exact z5
    · rw [u1 4 0 4 (by omega), o 3 (by omega) (by omega)]; exact z4
    · rw [u1 4 0 7 (by omega), o 4 (by omega) (by omega)]; exact z7
    · rw [u1 4 0 8 (by omega), o 5 (by omega) (by omega)]; exact z8
    · rw [u1 4 0 9 (by omega), o 6 (by omega) (by omega)]; exact z9
    · rw [u1 4 0 10 (by omega), o 7 (by omega) (by omega)]; exact z10
    · rw [u1 4 0 11 (by omega), o 8 (by omega) (by omega)]; exact z11
    · rw [u1 2 0 5 (by omega), o 9 (by omega) (by omega)]; exact y2
    · rw [u1 3 0 4 (by omega), o 10 (by omega) (by omega)]; exact y3
    · exact (u1 0 _ 1 (by omega)).trans (S.rB i hi).1
    · exact (u1 1 _ q (by omega)).trans (((S.rB i hi).2 q hq).trans (gB_cg (fun s _ _ => (o s (by omega) (by omega)).symm) (by omega)))
    · rw [(u3 i hi).2 q hq, (S.rO i hi).2 _ (rm_lt hp hq), gO_canc hp hO hq]
    · exact (u1 0 9 1 (by omega)).trans S.2.2.2.1
    · rw [u1 1 9 q (by omega), o (78 + q) (by omega) (by omega)]
      exact S.2.2.2.2.2.2 q hq
