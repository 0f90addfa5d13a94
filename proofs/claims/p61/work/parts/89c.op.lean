/-! A CHANGE OF THE CLASS -/
theorem op_8 {t nB nO nP : Nat} {a : Nat → Int32} (x1 : Int32) (ht : t ≤ 512) (F : Fits t nB nO nP a) (G : Srt t nB nO a) : Ch 8 x1 0 0 [5] t nB nO nP a := by
  have hB := F.1.1
  have hO := F.1.2.1
  have hP := F.1.2.2.1
  have e13 : a 13 = nI nP := F.1.2.2.2.2.2
  have cs : (x1 < 0 ∨ nI nP ≤ x1) ∨ ∃ i : Nat, i < nP ∧ x1 = nI i := by
    rcases pk_ix x1 (show nP < 2 ^ 31 by omega) with q | q | q
    · exact Or.inl (Or.inl q)
    · exact Or.inl (Or.inr q)
    · exact Or.inr q
  rcases cs with hb | ⟨i, hi, hx⟩
  · refine Or.inl ⟨5, by simp, fun σ Q E S _ h => ?_⟩
    · exact ⟨fun q => absurd q (by decide), fun q => absurd q (by decide), fun q => absurd q (by decide), fun q => absurd q (by decide), fun q => absurd q (by decide), fun q => absurd q (by decide), fun q => absurd q (by decide), fun q => absurd q (by decide), fun _ => w_has (k := 9) (n := nP) (by omega) S.2.2.2.1 (fun i hi ha => absurd hb (no_ix hi (by omega) ha)) (fun _ => ⟨fun _ => h σ (FrS.rf σ), fun q => absurd rfl q⟩)⟩
  obtain ⟨n, rfl⟩ : ∃ n, nP = n + 1 := ⟨nP - 1, by omega⟩
  have o : ∀ s : Nat, s < 78 → s ≠ 0 → s ≠ 5 → s ≠ 8 → s ≠ 13 → r_sell a i n s = a s := fun s h h0 h5 h8 h13 => sell_o (by omega) h h0 h5 h8 h13
  refine Or.inr ⟨nB, nO, n, r_sell a i n, wth (a (78 + i)), ⟨?_, ?_, ?_⟩, fun σ Q E S _ h => ?_, fun σ Q E S _ h => ?_⟩
  · obtain ⟨⟨f1, f2, f3, f4, f5, f6⟩, g1, g2, g3, g4, g5, g6, ⟨p, p1, p2, p3⟩, g8⟩ := F.mono (Nat.le_succ t)
    refine ⟨⟨f1, f2, by omega, ?_, ?_, up_eq _ _ _⟩, ?_, ?_, ?_, ?_, fun q hq => ?_, fun q hq => ?_, ⟨fun q => p (rm i q), fun q hq => ?_, ?_, ?_⟩, ?_⟩
    · rw [o 11 (by omega) (by omega) (by omega) (by omega) (by omega)]; exact f4
    · rw [o 12 (by omega) (by omega) (by omega) (by omega) (by omega)]; exact f5
    · rw [o 3 (by omega) (by omega) (by omega) (by omega) (by omega)]; exact g1
    · rw [o 1 (by omega) (by omega) (by omega) (by omega) (by omega)]; exact g2
    · rw [o 9 (by omega) (by omega) (by omega) (by omega) (by omega)]; exact g3
    · rw [o 10 (by omega) (by omega) (by omega) (by omega) (by omega)]; exact g4
    · rw [o (14 + 4 * q) (by omega) (by omega) (by omega) (by omega) (by omega), o (15 + 4 * q) (by omega) (by omega) (by omega) (by omega) (by omega), o (16 + 4 * q) (by omega) (by omega) (by omega) (by omega) (by omega), o (17 + 4 * q) (by omega) (by omega) (by omega) (by omega) (by omega)]
      exact g5 q hq
    · rw [o (54 + 3 * q) (by omega) (by omega) (by omega) (by omega) (by omega), o (55 + 3 * q) (by omega) (by omega) (by omega) (by omega) (by omega), o (56 + 3 * q) (by omega) (by omega) (by omega) (by omega) (by omega)]
      exact g6 q hq
    · rw [sell_q hi f3 hq]
      exact p1 _ (rm_lt hi hq)
    · have := sumN_rm p i n (by omega)
      omega
    · have e := sumN_rm p i n (by omega)
      rw [o 6 (by omega) (by omega) (by omega) (by omega) (by omega), o 7 (by omega) (by omega) (by omega) (by omega) (by omega), sell_8 (by omega), (p1 i hi).2]
      rw [← e, ← nI_add] at p3
      have e2 : a 6 - (a 8 + nI (p i)) - a 7 = a 6 - a 8 - a 7 - nI (p i) := by grind
      rw [e2, p3]
      grind
    · rw [sell_0 (by omega), sell_5 (by omega), o 4 (by omega) (by omega) (by omega) (by omega) (by omega), g8, Int32.add_assoc]
  · obtain ⟨p, p1, p2, -⟩ := F.2.2.2.2.2.2.2.1
    have hpi := sumN_ge (p := p) hi
    obtain ⟨w, w1, w2⟩ := wth_nI (show p i < 2 ^ 28 by omega)
    refine ⟨?_, G.2.1.cg (Nat.le_succ t) (fun q hq => o _ (by omega) (by omega) (by omega) (by omega) (by omega)) (o 9 (by omega) (by omega) (by omega) (by omega) (by omega)), G.2.2.cg (Nat.le_succ t) (fun q hq => o _ (by omega) (by omega) (by omega) (by omega) (by omega)) (o 10 (by omega) (by omega) (by omega) (by omega) (by omega))⟩
    rw [sell_0 (by omega), (p1 i hi).2]
    exact G.1.add w2 (by omega)
  · obtain ⟨p, p1, p2, -⟩ := F.2.2.2.2.2.2.2.1
    have hpi := sumN_ge (p := p) hi
    obtain ⟨w, w1, w2⟩ := wth_nI (show p i < 2 ^ 28 by omega)
    exact ⟨w, by omega, by rw [(p1 i hi).2]; exact w2⟩
  · exact ⟨fun q => absurd q (by decide), fun q => absurd q (by decide), fun q => absurd q (by decide), fun q => absurd q (by decide), fun q => absurd q (by decide), fun q => absurd q (by decide), fun q => absurd q (by decide), fun q => absurd q (by decide), fun _ => w_has (k := 9) (n := n + 1) (by omega) S.2.2.2.1 (fun _ _ _ => ⟨fun q => absurd q (by decide), fun _ => h σ (FrS.rf σ)⟩) (fun hb => absurd hb (no_ix hi (by omega) hx))⟩
  · obtain ⟨z6, z3, z5, z4, z7, z8, z9, z10, z11, y2, y3⟩ := S.1
    have ep : rd σ 1 9 i = a (78 + i) := S.2.2.2.2.2.2 i hi
    refine ⟨fun q => absurd q (by decide), fun q => absurd q (by decide), fun q => absurd q (by decide), fun q => absurd q (by decide), fun q => absurd q (by decide), fun q => absurd q (by decide), fun q => absurd q (by decide), fun q => absurd q (by decide), fun _ => w_worthAt (n := n + 1) S.2.2.2.1 hi hP hx ?_⟩
    refine w_get (k := 9) (n := n + 1) S.2.2.2.1 hi hP hx ?_
    intro s5 h5 s6 h6 s7 h7
    rw [ep] at h5 h6 h7
    rw [hx]
    have g : ∀ f k s : Nat, ¬ (f = 4 ∧ k = 0 ∧ (s = 11 ∨ s = 6 ∨ s = 8)) → rd s7 f k s = rd σ f k s := fun f k s n => by rw [h7, rd_wr, if_neg (by omega), h6, rd_wr, if_neg (by omega), h5, rd_wr, if_neg (by omega)]
    refine w_removeAt (k := 9) (n := n) (p := i) ((g 0 9 1 (by omega)).trans S.2.2.2.1) hP hi (fun τ u1 u2 u3 u4 => ?_)
    have gt : ∀ f k s : Nat, ¬ (f ≤ 1 ∧ k = 9) → ¬ (f = 4 ∧ k = 0 ∧ (s = 11 ∨ s = 6 ∨ s = 8)) → rd τ f k s = rd σ f k s := fun f k s m n => (u1 f k s m).trans (g f k s n)
    show Q (wth (rd σ 1 9 i)) τ
    rw [ep]
    refine h τ ⟨fun f k s m m2 => gt f k s (by unfold SIn at m; omega) (by unfold SIn at m; omega), by rw [u2, h7, h6, h5]; rfl⟩ (Same.mk0 ⟨?_, ?_, ?_, ?_, ?_, ?_, ?_, ?_, ?_, ?_, ?_⟩ (fun j hj => ⟨?_, fun q hq => ?_⟩) (fun j hj => ⟨?_, fun q hq => ?_⟩) ⟨u3, fun q hq => ?_⟩)
    · rw [u1 4 0 6 (by omega), h7, rd_wr, if_neg (by omega), h6, rd_wr, if_pos ⟨rfl, rfl, rfl⟩, h5, rd_wr, if_neg (by omega), z6, sell_0 (by omega)]
    · rw [gt 4 0 3 (by omega) (by omega), o 1 (by omega) (by omega) (by omega) (by omega) (by omega)]; exact z3
    · rw [gt 4 0 5 (by omega) (by omega), o 2 (by omega) (by omega) (by omega) (by omega) (by omega)]; exact z5
    · rw [gt 4 0 4 (by omega) (by omega), o 3 (by omega) (by omega) (by omega) (by omega) (by omega)]; exact z4
    · rw [gt 4 0 7 (by omega) (by omega), o 4 (by omega) (by omega) (by omega) (by omega) (by omega)]; exact z7
    · rw [u1 4 0 8 (by omega), h7, rd_wr, if_pos ⟨rfl, rfl, rfl⟩, h6, rd_wr, if_neg (by omega), h5, rd_wr, if_neg (by omega), z8, sell_5 (by omega)]
    · rw [gt 4 0 9 (by omega) (by omega), o 6 (by omega) (by omega) (by omega) (by omega) (by omega)]; exact z9
    · rw [gt 4 0 10 (by omega) (by omega), o 7 (by omega) (by omega) (by omega) (by omega) (by omega)]; exact z10
    · rw [u1 4 0 11 (by omega), h7, rd_wr, if_neg (by omega), h6, rd_wr, if_neg (by omega), h5, rd_wr, if_pos ⟨rfl, rfl, rfl⟩, z11, sell_8 (by omega)]
    · rw [gt 2 0 5 (by omega) (by omega), o 9 (by omega) (by omega) (by omega) (by omega) (by omega)]; exact y2
    · rw [gt 3 0 4 (by omega) (by omega), o 10 (by omega) (by omega) (by omega) (by omega) (by omega)]; exact y3
    · exact (gt 0 _ 1 (by omega) (by omega)).trans (S.rB j hj).1
    · exact (gt 1 _ q (by omega) (by omega)).trans (((S.rB j hj).2 q hq).trans (gB_cg (fun s _ _ => (o s (by omega) (by omega) (by omega) (by omega) (by omega)).symm) (by omega)))
    · exact (gt 0 _ 1 (by omega) (by omega)).trans (S.rO j hj).1
    · exact (gt 1 _ q (by omega) (by omega)).trans (((S.rO j hj).2 q hq).trans (gO_cg (fun s _ _ => (o s (by omega) (by omega) (by omega) (by omega) (by omega)).symm) (by omega)))
    · rw [u4 q hq, g 1 9 _ (by omega), sell_q hi hP hq]
      exact S.2.2.2.2.2.2 _ (rm_lt hi hq)
