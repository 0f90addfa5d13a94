/-! A CHANGE OF THE CLASS -/
theorem op_7 {t nB nO nP : Nat} {a : Nat → Int32} (ht : t ≤ 512) (F : Fits t nB nO nP a) (G : Srt t nB nO a) : Ch 7 0 0 0 [2] t nB nO nP a := by
  have hB := F.1.1
  have hO := F.1.2.1
  have hP := F.1.2.2.1
  have e13 : a 13 = nI nP := F.1.2.2.2.2.2
  by_cases c2 : 2 ≤ nP
  rotate_left
  · refine Or.inl ⟨2, by simp, fun σ Q E S _ h => ?_⟩
    · refine ⟨fun q => absurd q (by decide), fun q => absurd q (by decide), fun q => absurd q (by decide), fun q => absurd q (by decide), fun q => absurd q (by decide), fun q => absurd q (by decide), fun q => absurd q (by decide), fun _ => ?_, fun q => absurd q (by decide)⟩
      show (2 ≤ rd σ 0 9 1 → Q 0 σ) ∧ (¬ 2 ≤ rd σ 0 9 1 → Q 2 σ)
      rw [show rd σ 0 9 1 = nI nP from S.2.2.2.1, show (2 : Int32) = nI 2 from rfl, nI_leI (by omega) (by omega)]
      exact ⟨fun q => absurd q c2, fun _ => h σ (FrS.rf σ)⟩
  obtain ⟨n, rfl⟩ : ∃ n, nP = n + 1 := ⟨nP - 1, by omega⟩
  obtain ⟨p, p1, p2, p3⟩ := pie_p F ht
  have hge : n + 1 ≤ sumN p (n + 1) := by
    have := sR_ge (p := p) (f := 0) (k := n + 1) (n := n + 1) (by omega) p1
    rw [show sR p 0 (n + 1) = sumN p (n + 1) from sumN_cg fun q _ => by rw [Nat.zero_add]] at this
    exact this
  have o : ∀ s : Nat, s < 78 → s ≠ 2 → s ≠ 7 → s ≠ 13 → r_join a n (cC p n 0) (sumN p (n + 1) - n) s = a s := fun s h h2 h7 h13 => join_o h h2 h7 h13
  refine Or.inr ⟨nB, nO, 1, r_join a n (cC p n 0) (sumN p (n + 1) - n), nI (sumN p (n + 1) - n), ⟨?_, ?_, ?_⟩, fun σ Q E S _ h => ?_, fun σ Q E S _ h => ?_⟩
  · obtain ⟨⟨f1, f2, f3, f4, f5, f6⟩, g1, g2, g3, g4, g5, g6, ⟨p', p1', p2', p3'⟩, g8⟩ := F.mono (Nat.le_succ t)
    have es : sumN p' (n + 1) = sumN p (n + 1) := sumN_cg fun q hq => by
      have e1 := (p1' q hq).2
      rw [p2 q hq] at e1
      have b1 := sumN_ge (p := p) hq
      have b2 := sumN_ge (p := p') hq
      exact ((nI_eq (by omega) (by omega)).mp e1).symm
    refine ⟨⟨f1, f2, by omega, ?_, ?_, up_eq _ _ _⟩, ?_, ?_, ?_, ?_, fun q hq => ?_, fun q hq => ?_, ⟨fun _ => sumN p (n + 1) - n, fun q hq => ?_, ?_, ?_⟩, ?_⟩
    · rw [o 11 (by omega) (by omega) (by omega) (by omega)]; exact f4
    · rw [o 12 (by omega) (by omega) (by omega) (by omega)]; exact f5
    · rw [o 3 (by omega) (by omega) (by omega) (by omega)]; exact g1
    · rw [o 1 (by omega) (by omega) (by omega) (by omega)]; exact g2
    · rw [o 9 (by omega) (by omega) (by omega) (by omega)]; exact g3
    · rw [o 10 (by omega) (by omega) (by omega) (by omega)]; exact g4
    · rw [o (14 + 4 * q) (by omega) (by omega) (by omega) (by omega), o (15 + 4 * q) (by omega) (by omega) (by omega) (by omega), o (16 + 4 * q) (by omega) (by omega) (by omega) (by omega), o (17 + 4 * q) (by omega) (by omega) (by omega) (by omega)]
      exact g5 q hq
    · rw [o (54 + 3 * q) (by omega) (by omega) (by omega) (by omega), o (55 + 3 * q) (by omega) (by omega) (by omega) (by omega), o (56 + 3 * q) (by omega) (by omega) (by omega) (by omega)]
      exact g6 q hq
    · obtain rfl : q = 0 := by omega
      show 1 ≤ sumN p (n + 1) - n ∧ _
      exact ⟨by omega, join_78⟩
    · show 0 + (sumN p (n + 1) - n) ≤ 40 * (t + 1)
      omega
    · show _ = nI (0 + (sumN p (n + 1) - n))
      rw [Nat.zero_add, o 6 (by omega) (by omega) (by omega) (by omega), o 8 (by omega) (by omega) (by omega) (by omega), join_7]
      have e2 : a 6 - a 8 - (a 7 + nI n) = a 6 - a 8 - a 7 - nI n := by grind
      rw [e2, p3', es, pk_sub (by omega)]
    · rw [o 0 (by omega) (by omega) (by omega) (by omega), o 4 (by omega) (by omega) (by omega) (by omega), o 5 (by omega) (by omega) (by omega) (by omega)]
      exact g8
  · exact G.to (o 0 (by omega) (by omega) (by omega) (by omega)) (o 9 (by omega) (by omega) (by omega) (by omega)) (o 10 (by omega) (by omega) (by omega) (by omega)) (fun q hq => o _ (by omega) (by omega) (by omega) (by omega)) (fun q hq => o _ (by omega) (by omega) (by omega) (by omega))
  · obtain ⟨p', p1', p2', -⟩ := F.2.2.2.2.2.2.2.1
    have es : sumN p' (n + 1) = sumN p (n + 1) := sumN_cg fun q hq => by
        have e1 := (p1' q hq).2
        rw [p2 q hq] at e1
        have b1 := sumN_ge (p := p) hq
        have b2 := sumN_ge (p := p') hq
        exact ((nI_eq (by omega) (by omega)).mp e1).symm
    exact ⟨sumN p (n + 1) - n, by omega, rfl⟩
  · refine ⟨fun q => absurd q (by decide), fun q => absurd q (by decide), fun q => absurd q (by decide), fun q => absurd q (by decide), fun q => absurd q (by decide), fun q => absurd q (by decide), fun q => absurd q (by decide), fun _ => ?_, fun q => absurd q (by decide)⟩
    show (2 ≤ rd σ 0 9 1 → Q 0 σ) ∧ (¬ 2 ≤ rd σ 0 9 1 → Q 2 σ)
    rw [show rd σ 0 9 1 = nI (n + 1) from S.2.2.2.1, show (2 : Int32) = nI 2 from rfl, nI_leI (by omega) (by omega)]
    exact ⟨fun _ => h σ (FrS.rf σ), fun q => absurd c2 q⟩
  · obtain ⟨z6, z3, z5, z4, z7, z8, z9, z10, z11, y2, y3⟩ := S.1
    refine ⟨fun q => absurd q (by decide), fun q => absurd q (by decide), fun q => absurd q (by decide), fun q => absurd q (by decide), fun q => absurd q (by decide), fun q => absurd q (by decide), fun q => absurd q (by decide), fun _ => w_table (p := p) hP p3 p1 S.2.2.2.1 (fun q hq => (S.2.2.2.2.2.2 q hq).trans (p2 q hq)) (fun τ t1 t2 => ?_), fun q => absurd q (by decide)⟩
    have k9 : rd τ 0 9 1 = nI (n + 1) := (t1 0 9 1 (by omega)).trans S.2.2.2.1
    intro v2 h2
    rw [show rd τ 0 (10 * 0 + 9) 1 = nI (n + 1) from k9, nI_pred] at h2
    subst h2
    refine w_sum (k := 9) (p := p) k9 hP (fun q hq => ((t1 1 9 q (by omega)).trans (S.2.2.2.2.2.2 q hq)).trans (p2 q hq)) ?_
    intro v3 h3 s8 h8
    rw [pk_sub (by omega)] at h3
    subst h3
    refine w_add (k := 9) (n := 0) (by rw [h8, rd_wr, if_pos ⟨rfl, rfl, rfl⟩]; rfl) (by decide) (fun y y1 y2' y3' y4 => ?_)
    intro s11 h11 s12 h12
    have gt : ∀ f k s : Nat, ¬ (f ≤ 1 ∧ k = 9) → ¬ (f = 4 ∧ k = 0 ∧ (s = 5 ∨ s = 10)) → ¬ (f = 10 ∧ k = 5) → rd s12 f k s = rd σ f k s := fun f k s m m2 m3 => by rw [h12, rd_wr, if_neg (by omega), h11, rd_wr, if_neg (by omega), y1 f k s m, h8, rd_wr, if_neg (by omega), t1 f k s m3]
    refine h s12 ⟨fun f k s m m2 => gt f k s (by unfold SIn at m; omega) (by unfold SIn at m; omega) (by unfold scc at m2; omega), by rw [h12, h11]; show y.2 = _; rw [y2', h8]; exact t2⟩ (Same.mk0 ⟨?_, ?_, ?_, ?_, ?_, ?_, ?_, ?_, ?_, ?_, ?_⟩ (fun j hj => ⟨?_, fun q hq => ?_⟩) (fun j hj => ⟨?_, fun q hq => ?_⟩) ⟨?_, fun q hq => ?_⟩)
    · rw [gt 4 0 6 (by omega) (by omega) (by omega), o 0 (by omega) (by omega) (by omega) (by omega)]; exact z6
    · rw [gt 4 0 3 (by omega) (by omega) (by omega), o 1 (by omega) (by omega) (by omega) (by omega)]; exact z3
    · rw [h12, rd_wr, if_neg (by omega), h11, rd_wr, if_pos ⟨rfl, rfl, rfl⟩, y1 4 0 5 (by omega), h8, rd_wr, if_neg (by omega), t1 4 0 5 (by omega), z5, join_2]
      rfl
    · rw [gt 4 0 4 (by omega) (by omega) (by omega), o 3 (by omega) (by omega) (by omega) (by omega)]; exact z4
    · rw [gt 4 0 7 (by omega) (by omega) (by omega), o 4 (by omega) (by omega) (by omega) (by omega)]; exact z7
    · rw [gt 4 0 8 (by omega) (by omega) (by omega), o 5 (by omega) (by omega) (by omega) (by omega)]; exact z8
    · rw [gt 4 0 9 (by omega) (by omega) (by omega), o 6 (by omega) (by omega) (by omega) (by omega)]; exact z9
    · rw [h12, rd_wr, if_pos ⟨rfl, rfl, rfl⟩, h11, rd_wr, if_neg (by omega), y1 4 0 10 (by omega), h8, rd_wr, if_neg (by omega), t1 4 0 10 (by omega), z10, join_7]
    · rw [gt 4 0 11 (by omega) (by omega) (by omega), o 8 (by omega) (by omega) (by omega) (by omega)]; exact z11
    · rw [gt 2 0 5 (by omega) (by omega) (by omega), o 9 (by omega) (by omega) (by omega) (by omega)]; exact y2
    · rw [gt 3 0 4 (by omega) (by omega) (by omega), o 10 (by omega) (by omega) (by omega) (by omega)]; exact y3
    · exact (gt 0 _ 1 (by omega) (by omega) (by omega)).trans (S.rB j hj).1
    · exact (gt 1 _ q (by omega) (by omega) (by omega)).trans (((S.rB j hj).2 q hq).trans (gB_cg (fun s _ _ => (o s (by omega) (by omega) (by omega) (by omega)).symm) (by omega)))
    · exact (gt 0 _ 1 (by omega) (by omega) (by omega)).trans (S.rO j hj).1
    · exact (gt 1 _ q (by omega) (by omega) (by omega)).trans (((S.rO j hj).2 q hq).trans (gO_cg (fun s _ _ => (o s (by omega) (by omega) (by omega) (by omega)).symm) (by omega)))
    · rw [h12, rd_wr, if_neg (by omega), h11, rd_wr, if_neg (by omega)]
      exact y3'
    · obtain rfl : q = 0 := by omega
      rw [h12, rd_wr, if_neg (by omega), h11, rd_wr, if_neg (by omega), y4, if_pos rfl]
      exact join_78.symm
