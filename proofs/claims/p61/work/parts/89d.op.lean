/-! A CHANGE OF THE CLASS -/
theorem op_6 {t nB nO nP : Nat} {a : Nat → Int32} (x1 : Int32) (ht : t ≤ 512) (F : Fits t nB nO nP a) (G : Srt t nB nO a) : Ch 6 x1 0 0 [5] t nB nO nP a := by
  have hB := F.1.1
  have hO := F.1.2.1
  have hP := F.1.2.2.1
  have e13 : a 13 = nI nP := F.1.2.2.2.2.2
  have cs : (∀ i : Nat, i + 1 < nP → ¬ x1 = nI i) ∨ ∃ i : Nat, i + 1 < nP ∧ x1 = nI i := by
    rcases pk_ix x1 (show nP < 2 ^ 31 by omega) with q | q | ⟨i, hi, q⟩
    · exact Or.inl fun i hi e => nI_pos (by omega) (e ▸ q)
    · exact Or.inl fun i hi e => nI_ge (show i < nP by omega) (by omega) (e ▸ q)
    · by_cases c : i + 1 < nP
      · exact Or.inr ⟨i, c, q⟩
      · refine Or.inl fun i' hi' e => ?_
        rw [q, nI_eq (by omega) (by omega)] at e
        omega
  rcases cs with hb | ⟨i, hi, hx⟩
  · refine Or.inl ⟨5, by simp, fun σ Q E S _ h => ?_⟩
    · exact ⟨fun q => absurd q (by decide), fun q => absurd q (by decide), fun q => absurd q (by decide), fun q => absurd q (by decide), fun q => absurd q (by decide), fun q => absurd q (by decide), fun _ => w_pair0 (k := 9) (n := nP) S.2.2.2.1 hP hb ⟨fun _ => h σ (FrS.rf σ), fun q => absurd rfl q⟩, fun q => absurd q (by decide), fun q => absurd q (by decide)⟩
  obtain ⟨n, rfl⟩ : ∃ n, nP = n + 1 := ⟨nP - 1, by omega⟩
  have o : ∀ s : Nat, s < 78 → s ≠ 2 → s ≠ 7 → s ≠ 13 → r_spl a i n s = a s := fun s h h2 h7 h13 => spl_o (by omega) h h2 h7 h13
  refine Or.inr ⟨nB, nO, n, r_spl a i n, a (78 + i) + a (78 + i + 1) - 1, ⟨?_, ?_, ?_⟩, fun σ Q E S _ h => ?_, fun σ Q E S _ h => ?_⟩
  · obtain ⟨⟨f1, f2, f3, f4, f5, f6⟩, g1, g2, g3, g4, g5, g6, ⟨p, p1, p2, p3⟩, g8⟩ := F.mono (Nat.le_succ t)
    obtain ⟨m, hm⟩ : ∃ m, p i + p (i + 1) = m + 1 := ⟨p i + p (i + 1) - 1, by have := (p1 i (by omega)).1; omega⟩
    have hm1 : 1 ≤ m := by
      have := (p1 i (by omega)).1
      have := (p1 (i + 1) (by omega)).1
      omega
    have ev : a (78 + i) + a (78 + i + 1) - 1 = nI m := by
      rw [(p1 i (by omega)).2, show a (78 + i + 1) = nI (p (i + 1)) from (p1 (i + 1) (by omega)).2, nI_add, hm, nI_pred]
    have sm : sumN (fun q => if q = i then m else p (rm (i + 1) q)) n + 1 = sumN p (n + 1) := by
      have e1 := sumN_rm p (i + 1) n (by omega)
      have e2 := sumN_up (fun q => p (rm (i + 1) q)) i m n (by omega)
      have e3 : rm (i + 1) i = i := by unfold rm; rw [if_pos (by omega)]
      simp only [e3] at e2
      omega
    refine ⟨⟨f1, f2, by omega, ?_, ?_, up_eq _ _ _⟩, ?_, ?_, ?_, ?_, fun q hq => ?_, fun q hq => ?_, ⟨fun q => if q = i then m else p (rm (i + 1) q), fun q hq => ?_, ?_, ?_⟩, ?_⟩
    · rw [o 11 (by omega) (by omega) (by omega) (by omega)]; exact f4
    · rw [o 12 (by omega) (by omega) (by omega) (by omega)]; exact f5
    · rw [o 3 (by omega) (by omega) (by omega) (by omega)]; exact g1
    · rw [o 1 (by omega) (by omega) (by omega) (by omega)]; exact g2
    · rw [o 9 (by omega) (by omega) (by omega) (by omega)]; exact g3
    · rw [o 10 (by omega) (by omega) (by omega) (by omega)]; exact g4
    · rw [o (14 + 4 * q) (by omega) (by omega) (by omega) (by omega), o (15 + 4 * q) (by omega) (by omega) (by omega) (by omega), o (16 + 4 * q) (by omega) (by omega) (by omega) (by omega), o (17 + 4 * q) (by omega) (by omega) (by omega) (by omega)]
      exact g5 q hq
    · rw [o (54 + 3 * q) (by omega) (by omega) (by omega) (by omega), o (55 + 3 * q) (by omega) (by omega) (by omega) (by omega), o (56 + 3 * q) (by omega) (by omega) (by omega) (by omega)]
      exact g6 q hq
    · by_cases c : q = i
      · subst c
        rw [spl_i, ev]
        simp only [if_true]
        exact ⟨hm1, trivial⟩
      · rw [spl_q hi f3 hq c]
        simp only [if_neg c]
        exact p1 _ (rm_lt hi hq)
    · omega
    · rw [o 6 (by omega) (by omega) (by omega) (by omega), o 8 (by omega) (by omega) (by omega) (by omega), spl_7 (by omega)]
      rw [← sm] at p3
      have e2 : a 6 - a 8 - (a 7 + 1) = a 6 - a 8 - a 7 - 1 := by grind
      rw [e2, p3, nI_pred]
    · rw [o 0 (by omega) (by omega) (by omega) (by omega), o 4 (by omega) (by omega) (by omega) (by omega), o 5 (by omega) (by omega) (by omega) (by omega)]
      exact g8
  · exact G.to (o 0 (by omega) (by omega) (by omega) (by omega)) (o 9 (by omega) (by omega) (by omega) (by omega)) (o 10 (by omega) (by omega) (by omega) (by omega)) (fun q hq => o _ (by omega) (by omega) (by omega) (by omega)) (fun q hq => o _ (by omega) (by omega) (by omega) (by omega))
  · obtain ⟨p, p1, p2, -⟩ := F.2.2.2.2.2.2.2.1
    have h3 := (p1 i (by omega)).1
    have h4 := sumN_ge (p := p) (show i < n + 1 by omega)
    have h5 := sumN_ge (p := p) (show i + 1 < n + 1 by omega)
    refine ⟨p i + p (i + 1) - 1, by omega, ?_⟩
    rw [(p1 i (by omega)).2, show a (78 + i + 1) = nI (p (i + 1)) from (p1 (i + 1) (by omega)).2, nI_add, show p i + p (i + 1) = (p i + p (i + 1) - 1) + 1 by omega, nI_pred]
    congr 1
  · exact ⟨fun q => absurd q (by decide), fun q => absurd q (by decide), fun q => absurd q (by decide), fun q => absurd q (by decide), fun q => absurd q (by decide), fun q => absurd q (by decide), fun _ => w_pair1 (k := 9) (n := n + 1) S.2.2.2.1 hP hi hx ⟨fun q => absurd q (by decide), fun _ => h σ (FrS.rf σ)⟩, fun q => absurd q (by decide), fun q => absurd q (by decide)⟩
  · obtain ⟨z6, z3, z5, z4, z7, z8, z9, z10, z11, y2, y3⟩ := S.1
    have ep : rd σ 1 9 i = a (78 + i) := S.2.2.2.2.2.2 i (by omega)
    have ep1 : rd σ 1 9 (i + 1) = a (78 + i + 1) := S.2.2.2.2.2.2 (i + 1) hi
    refine ⟨fun q => absurd q (by decide), fun q => absurd q (by decide), fun q => absurd q (by decide), fun q => absurd q (by decide), fun q => absurd q (by decide), fun q => absurd q (by decide), fun _ => w_get (k := 9) (n := n + 1) (i := i) S.2.2.2.1 (by omega) hP hx ?_, fun q => absurd q (by decide), fun q => absurd q (by decide)⟩
    refine w_get (k := 9) (n := n + 1) (i := i + 1) S.2.2.2.1 hi hP (by rw [hx, nI_1]) ?_
    rw [ep, ep1]
    intro v hv
    subst hv
    subst hx
    refine ⟨fun q => absurd q (nI_pos (by omega)), fun _ => ⟨fun q => absurd (show nI (n + 1) ≤ nI i from S.2.2.2.1 ▸ q) (nI_ge (by omega) (by omega)), fun _ => ⟨vp_in_nI (show i < 12 by omega) (by decide), fun s1 h1 => ?_⟩⟩⟩
    rw [nI_clamp (by omega)] at h1
    have g : ∀ f k s : Nat, ¬ (f = 1 ∧ k = 9) → rd s1 f k s = rd σ f k s := fun f k s n => by rw [h1, rd_wr, if_neg (by omega)]
    rw [nI_1]
    refine w_removeAt (k := 9) (n := n) (p := i + 1) ((g 0 9 1 (by omega)).trans S.2.2.2.1) hP hi (fun τ u1 u2 u3 u4 => ?_)
    intro s10 h10 s11 h11
    have gt : ∀ f k s : Nat, ¬ (f ≤ 1 ∧ k = 9) → ¬ (f = 4 ∧ k = 0 ∧ (s = 5 ∨ s = 10)) → rd s11 f k s = rd σ f k s := fun f k s m m2 => by rw [h11, rd_wr, if_neg (by omega), h10, rd_wr, if_neg (by omega), u1 f k s m, g f k s (by omega)]
    refine h s11 ⟨fun f k s m m2 => gt f k s (by unfold SIn at m; omega) (by unfold SIn at m; omega), by rw [h11, h10]; show τ.2 = _; rw [u2, h1]; rfl⟩ (Same.mk0 ⟨?_, ?_, ?_, ?_, ?_, ?_, ?_, ?_, ?_, ?_, ?_⟩ (fun j hj => ⟨?_, fun q hq => ?_⟩) (fun j hj => ⟨?_, fun q hq => ?_⟩) ⟨?_, fun q hq => ?_⟩)
    · rw [gt 4 0 6 (by omega) (by omega), o 0 (by omega) (by omega) (by omega) (by omega)]; exact z6
    · rw [gt 4 0 3 (by omega) (by omega), o 1 (by omega) (by omega) (by omega) (by omega)]; exact z3
    · rw [h11, rd_wr, if_neg (by omega), h10, rd_wr, if_pos ⟨rfl, rfl, rfl⟩, u1 4 0 5 (by omega), g 4 0 5 (by omega), z5, spl_2 (by omega)]
    · rw [gt 4 0 4 (by omega) (by omega), o 3 (by omega) (by omega) (by omega) (by omega)]; exact z4
    · rw [gt 4 0 7 (by omega) (by omega), o 4 (by omega) (by omega) (by omega) (by omega)]; exact z7
    · rw [gt 4 0 8 (by omega) (by omega), o 5 (by omega) (by omega) (by omega) (by omega)]; exact z8
    · rw [gt 4 0 9 (by omega) (by omega), o 6 (by omega) (by omega) (by omega) (by omega)]; exact z9
    · rw [h11, rd_wr, if_pos ⟨rfl, rfl, rfl⟩, h10, rd_wr, if_neg (by omega), u1 4 0 10 (by omega), g 4 0 10 (by omega), z10, spl_7 (by omega)]
    · rw [gt 4 0 11 (by omega) (by omega), o 8 (by omega) (by omega) (by omega) (by omega)]; exact z11
    · rw [gt 2 0 5 (by omega) (by omega), o 9 (by omega) (by omega) (by omega) (by omega)]; exact y2
    · rw [gt 3 0 4 (by omega) (by omega), o 10 (by omega) (by omega) (by omega) (by omega)]; exact y3
    · exact (gt 0 _ 1 (by omega) (by omega)).trans (S.rB j hj).1
    · exact (gt 1 _ q (by omega) (by omega)).trans (((S.rB j hj).2 q hq).trans (gB_cg (fun s _ _ => (o s (by omega) (by omega) (by omega) (by omega)).symm) (by omega)))
    · exact (gt 0 _ 1 (by omega) (by omega)).trans (S.rO j hj).1
    · exact (gt 1 _ q (by omega) (by omega)).trans (((S.rO j hj).2 q hq).trans (gO_cg (fun s _ _ => (o s (by omega) (by omega) (by omega) (by omega)).symm) (by omega)))
    · rw [h11, rd_wr, if_neg (by omega), h10, rd_wr, if_neg (by omega)]
      exact u3
    · rw [h11, rd_wr, if_neg (by omega), h10, rd_wr, if_neg (by omega), u4 q hq, h1, rd_wr]
      by_cases c : q = i
      · subst c
        rw [if_pos ⟨rfl, rfl, by rw [if_pos (by omega)]⟩, spl_i]
      · rw [if_neg (by split <;> omega), spl_q hi hP hq c]
        exact S.2.2.2.2.2.2 _ (rm_lt hi hq)
