/-! A CHANGE OF THE CLASS -/
theorem op_4 {t nB nO nP : Nat} {a : Nat → Int32} (x1 : Int32) (ht : t ≤ 512) (F : Fits t nB nO nP a) (G : Srt t nB nO a) : Ch 4 x1 0 0 [1] t nB nO nP a := by
  rcases btw_or (x := x1) (lo := 1) (hi := 3) (l := 1) (h := 3) rfl rfl (by decide) (by decide) with hb | ⟨w, h1, h2, hx⟩
  · refine Or.inl ⟨1, by simp, fun σ Q E S _ h => ?_⟩
    · exact ⟨fun q => absurd q (by decide), fun q => absurd q (by decide), fun q => absurd q (by decide), fun q => absurd q (by decide), fun _ => w_btw0 hb ⟨fun _ => h σ (FrS.rf σ), fun q => absurd rfl q⟩, fun q => absurd q (by decide), fun q => absurd q (by decide), fun q => absurd q (by decide), fun q => absurd q (by decide)⟩
  · subst hx
    have nb : ¬ (nI w < 1 ∨ 3 < nI w) := in_nb rfl rfl h1 h2 (by decide)
    have hB := F.1.1
    have hO := F.1.2.1
    have hP := F.1.2.2.1
    refine Or.inr ⟨nB, nO, nP, up a 3 (nI w), a 3, ⟨?_, ?_, ?_⟩, fun σ Q E S _ h => ?_, fun σ Q E S _ h => ?_⟩
    · obtain ⟨⟨f1, f2, f3, f4, f5, f6⟩, g1, g2, g3, g4, g5, g6, ⟨p, p1, p2, p3⟩, g8⟩ := F.mono (Nat.le_succ t)
      refine ⟨⟨f1, f2, f3, ?_, ?_, ?_⟩, ⟨w, h1, h2, up_eq _ _ _⟩, ?_, ?_, ?_, fun q hq => ?_, fun q hq => ?_, ⟨p, fun q hq => ?_, p2, ?_⟩, ?_⟩
      all_goals repeat (first | rw [up_ne (by omega)] | rw [up_eq])
      · exact f4
      · exact f5
      · exact f6
      · exact g2
      · exact g3
      · exact g4
      · exact g5 q hq
      · exact g6 q hq
      · exact p1 q hq
      · exact p3
      · exact g8
    · exact G.to (up_ne (by omega)) (up_ne (by omega)) (up_ne (by omega)) (fun q hq => up_ne (by omega)) (fun q hq => up_ne (by omega))
    · obtain ⟨m, m1, m2, m3⟩ := F.2.1
      exact ⟨m, by omega, m3⟩
    · exact ⟨fun q => absurd q (by decide), fun q => absurd q (by decide), fun q => absurd q (by decide), fun q => absurd q (by decide), fun _ => w_btw1 nb ⟨fun q => absurd q (by decide), fun _ => h σ (FrS.rf σ)⟩, fun q => absurd q (by decide), fun q => absurd q (by decide), fun q => absurd q (by decide), fun q => absurd q (by decide)⟩
    · refine ⟨fun q => absurd q (by decide), fun q => absurd q (by decide), fun q => absurd q (by decide), fun q => absurd q (by decide), fun _ => ?_, fun q => absurd q (by decide), fun q => absurd q (by decide), fun q => absurd q (by decide), fun q => absurd q (by decide)⟩
      intro v hv s2 hs2
      obtain ⟨z6, z3, z5, z4, z7, z8, z9, z10, z11, y2, y3⟩ := S.1
      have hv' : v = a 3 := hv.trans z4
      subst hv'
      have g : ∀ f k s : Nat, ¬ (f = 4 ∧ k = 0 ∧ s = 4) → rd s2 f k s = rd σ f k s := fun f k s n => by rw [hs2, rd_wr, if_neg n]
      refine h s2 ?_ (Same.mk0 ⟨?_, ?_, ?_, ?_, ?_, ?_, ?_, ?_, ?_, ?_, ?_⟩ (fun i hi => ?_) (fun i hi => ?_) ⟨?_, fun q hq => ?_⟩)
      · rw [hs2]
        exact (FrC.rf σ).w (by unfold SIn; omega)
      · rw [g 4 0 6 (by omega), up_ne (by omega)]; exact z6
      · rw [g 4 0 3 (by omega), up_ne (by omega)]; exact z3
      · rw [g 4 0 5 (by omega), up_ne (by omega)]; exact z5
      · rw [hs2, rd_wr, if_pos ⟨rfl, rfl, rfl⟩, up_eq]
      · rw [g 4 0 7 (by omega), up_ne (by omega)]; exact z7
      · rw [g 4 0 8 (by omega), up_ne (by omega)]; exact z8
      · rw [g 4 0 9 (by omega), up_ne (by omega)]; exact z9
      · rw [g 4 0 10 (by omega), up_ne (by omega)]; exact z10
      · rw [g 4 0 11 (by omega), up_ne (by omega)]; exact z11
      · rw [g 2 0 5 (by omega), up_ne (by omega)]; exact y2
      · rw [g 3 0 4 (by omega), up_ne (by omega)]; exact y3
      · exact ⟨(g 0 _ 1 (by omega)).trans (S.rB i hi).1, fun q hq => (g 1 _ q (by omega)).trans (((S.rB i hi).2 q hq).trans (gB_cg (fun s _ _ => (up_ne (by omega)).symm) (by omega)))⟩
      · exact ⟨(g 0 _ 1 (by omega)).trans (S.rO i hi).1, fun q hq => (g 1 _ q (by omega)).trans (((S.rO i hi).2 q hq).trans (gO_cg (fun s _ _ => (up_ne (by omega)).symm) (by omega)))⟩
      · exact (g 0 9 1 (by omega)).trans S.2.2.2.1
      · rw [g 1 9 q (by omega), up_ne (by omega)]
        exact S.2.2.2.2.2.2 q hq
