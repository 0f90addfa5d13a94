/-! A CHANGE OF THE CLASS -/
theorem op_2 {t nB nO nP : Nat} {a : Nat → Int32} (x1 x2 : Int32) (ht : t ≤ 512) (F : Fits t nB nO nP a) (G : Srt t nB nO a) : Ch 2 x1 x2 0 [1, 2] t nB nO nP a := by
  have hB := F.1.1
  have hO := F.1.2.1
  have hP := F.1.2.2.1
  have e12 : a 12 = nI nO := F.1.2.2.2.2.1
  obtain ⟨i0, hi0, e10⟩ := F.2.2.2.2.1
  have out : (x1 < 1 ∨ 40 < x1) ∨ (¬ (x1 < 1 ∨ 40 < x1) ∧ (x2 < 1 ∨ 9 < x2)) ∨ ∃ u w : Nat, (1 ≤ u ∧ u ≤ 40 ∧ x1 = nI u) ∧ 1 ≤ w ∧ w ≤ 9 ∧ x2 = nI w := by
    rcases btw_or (x := x1) (lo := 1) (hi := 40) (l := 1) (h := 40) rfl rfl (by decide) (by decide) with hb | ⟨u, h1, h2, hx⟩
    · exact Or.inl hb
    · rcases btw_or (x := x2) (lo := 1) (hi := 9) (l := 1) (h := 9) rfl rfl (by decide) (by decide) with hb | ⟨w, h3, h4, hy⟩
      · exact Or.inr (Or.inl ⟨by rw [hx]; exact in_nb rfl rfl h1 h2 (by decide), hb⟩)
      · exact Or.inr (Or.inr ⟨u, w, ⟨h1, h2, hx⟩, h3, h4, hy⟩)
  rcases out with hb | ⟨hn, hb⟩ | ⟨u, w, ⟨h1, h2, hx⟩, h3, h4, hy⟩
  · refine Or.inl ⟨1, by simp, fun σ Q E S _ h => ?_⟩
    · exact ⟨fun q => absurd q (by decide), fun q => absurd q (by decide), fun _ => w_btw0 hb ⟨fun _ => h σ (FrS.rf σ), fun q => absurd rfl q⟩, fun q => absurd q (by decide), fun q => absurd q (by decide), fun q => absurd q (by decide), fun q => absurd q (by decide), fun q => absurd q (by decide), fun q => absurd q (by decide)⟩
  · refine Or.inl ⟨1, by simp, fun σ Q E S _ h => ?_⟩
    · exact ⟨fun q => absurd q (by decide), fun q => absurd q (by decide), fun _ => w_btw1 hn ⟨fun q => absurd q (by decide), fun _ => w_btw0 hb ⟨fun q => absurd rfl q, fun _ => h σ (FrS.rf σ)⟩⟩, fun q => absurd q (by decide), fun q => absurd q (by decide), fun q => absurd q (by decide), fun q => absurd q (by decide), fun q => absurd q (by decide), fun q => absurd q (by decide)⟩
  have n1 : ¬ (x1 < 1 ∨ 40 < x1) := by rw [hx]; exact in_nb rfl rfl h1 h2 (by decide)
  have n2 : ¬ (x2 < 1 ∨ 9 < x2) := by rw [hy]; exact in_nb rfl rfl h3 h4 (by decide)
  by_cases hfull : nO = 8
  · refine Or.inl ⟨2, by simp, fun σ Q E S _ h => ?_⟩
    · exact ⟨fun q => absurd q (by decide), fun q => absurd q (by decide), fun _ => w_btw1 n1 ⟨fun q => absurd q (by decide), fun _ => w_btw1 n2 ⟨fun _ => w_full1 (n := nO) (S.rO 0 (by decide)).1 (by rw [hfull]; decide) (by omega) ⟨fun q => absurd q (by decide), fun _ => h σ (FrS.rf σ)⟩, fun q => absurd q (by decide)⟩⟩, fun q => absurd q (by decide), fun q => absurd q (by decide), fun q => absurd q (by decide), fun q => absurd q (by decide), fun q => absurd q (by decide), fun q => absurd q (by decide)⟩
  have hlt : nO < 8 := by omega
  have old : ∀ s : Nat, s ≠ 10 → s ≠ 12 → (s < 54 + 3 * nO ∨ 56 + 3 * nO < s) → r_open a nO x1 x2 s = a s := by
    intro s s1 s2 s3
    unfold r_open
    rw [up_ne s1, up_ne s2, up_ne (by omega), up_ne (by omega), up_ne (by omega)]
  have q54 : r_open a nO x1 x2 (54 + 3 * nO) = a 10 := by
    unfold r_open
    rw [up_ne (by omega), up_ne (by omega), up_ne (by omega), up_ne (by omega), up_eq]
  have q55 : r_open a nO x1 x2 (55 + 3 * nO) = x1 := by
    unfold r_open
    rw [up_ne (by omega), up_ne (by omega), up_ne (by omega), up_eq]
  have q56 : r_open a nO x1 x2 (56 + 3 * nO) = x2 := by
    unfold r_open
    rw [up_ne (by omega), up_ne (by omega), up_eq]
  have q12 : r_open a nO x1 x2 12 = nI (nO + 1) := by
    unfold r_open
    rw [up_ne (by omega), up_eq, e12, nI_1]
  have q10 : r_open a nO x1 x2 10 = nI (i0 + 1) := by
    unfold r_open
    rw [up_eq, e10, nI_1]
  refine Or.inr ⟨nB, nO + 1, nP, r_open a nO x1 x2, a 10, ⟨?_, ?_, ?_⟩, fun σ Q E S _ h => ?_, fun σ Q E S _ h => ?_⟩
  · obtain ⟨⟨f1, f2, f3, f4, f5, f6⟩, g1, g2, g3, g4, g5, g6, ⟨p, p1, p2, p3⟩, g8⟩ := F.mono (Nat.le_succ t)
    refine ⟨⟨f1, hlt, f3, ?_, q12, ?_⟩, ?_, ?_, ?_, ⟨i0 + 1, by omega, q10⟩, fun q hq => ?_, fun q hq => ?_, ⟨p, fun q hq => ?_, p2, ?_⟩, ?_⟩
    · rw [old 11 (by omega) (by omega) (by omega)]; exact f4
    · rw [old 13 (by omega) (by omega) (by omega)]; exact f6
    · rw [old 3 (by omega) (by omega) (by omega)]; exact g1
    · rw [old 1 (by omega) (by omega) (by omega)]; exact g2
    · rw [old 9 (by omega) (by omega) (by omega)]; exact g3
    · rw [old (14 + 4 * q) (by omega) (by omega) (by omega), old (15 + 4 * q) (by omega) (by omega) (by omega), old (16 + 4 * q) (by omega) (by omega) (by omega), old (17 + 4 * q) (by omega) (by omega) (by omega)]
      exact g5 q hq
    · by_cases e : q = nO
      · subst e
        rw [q54, q55, q56]
        exact ⟨⟨i0, by omega, e10⟩, ⟨u, h1, h2, hx⟩, w, h3, h4, hy⟩
      · rw [old (54 + 3 * q) (by omega) (by omega) (by omega), old (55 + 3 * q) (by omega) (by omega) (by omega), old (56 + 3 * q) (by omega) (by omega) (by omega)]
        exact g6 q (by omega)
    · rw [old (78 + q) (by omega) (by omega) (by omega)]
      exact p1 q hq
    · rw [old 6 (by omega) (by omega) (by omega), old 8 (by omega) (by omega) (by omega), old 7 (by omega) (by omega) (by omega)]
      exact p3
    · rw [old 0 (by omega) (by omega) (by omega), old 4 (by omega) (by omega) (by omega), old 5 (by omega) (by omega) (by omega)]
      exact g8
  · exact ⟨by rw [old 0 (by omega) (by omega) (by omega)]; exact G.1.up, G.2.1.cg (Nat.le_succ t) (fun q hq => old _ (by omega) (by omega) (by omega)) (old 9 (by omega) (by omega) (by omega)), G.2.2.app (fun q hq => old _ (by omega) (by omega) (by omega)) q54 (by rw [q10, e10, nI_1])⟩
  · exact ⟨i0, by omega, e10⟩
  · exact ⟨fun q => absurd q (by decide), fun q => absurd q (by decide), fun _ => w_btw1 n1 ⟨fun q => absurd q (by decide), fun _ => w_btw1 n2 ⟨fun _ => w_full0 (n := nO) (S.rO 0 (by decide)).1 hlt ⟨fun _ => h σ (FrS.rf σ), fun q => absurd rfl q⟩, fun q => absurd q (by decide)⟩⟩, fun q => absurd q (by decide), fun q => absurd q (by decide), fun q => absurd q (by decide), fun q => absurd q (by decide), fun q => absurd q (by decide), fun q => absurd q (by decide)⟩
  · refine ⟨fun q => absurd q (by decide), fun q => absurd q (by decide), fun _ => ?_, fun q => absurd q (by decide), fun q => absurd q (by decide), fun q => absurd q (by decide), fun q => absurd q (by decide), fun q => absurd q (by decide), fun q => absurd q (by decide)⟩
    intro v hv s2 hs2
    obtain ⟨z6, z3, z5, z4, z7, z8, z9, z10, z11, y2, y3⟩ := S.1
    have hv' : v = a 10 := hv.trans y3
    subst hv'
    have g : ∀ f k s : Nat, ¬ (f = 3 ∧ k = 0 ∧ s = 4) → rd s2 f k s = rd σ f k s := fun f k s n => by rw [hs2, rd_wr, if_neg n]
    have hS : ∀ i : Nat, i < 4 → rd s2 0 (5 + i) 1 = nI nO ∧ ∀ q : Nat, q < nO → gO (r_open a nO x1 x2) i q = rd s2 1 (5 + i) q := fun i hi => ⟨(g 0 _ 1 (by omega)).trans (S.rO i hi).1, fun q hq => by
      rw [g 1 _ q (by omega), (S.rO i hi).2 q hq]
      match i, hi with
      | 0, _ => exact old _ (by omega) (by omega) (by omega)
      | 1, _ => exact old _ (by omega) (by omega) (by omega)
      | 2, _ => exact old _ (by omega) (by omega) (by omega)
      | 3, _ =>
        show r_open a nO x1 x2 (55 + 3 * q) * r_open a nO x1 x2 (56 + 3 * q) = a (55 + 3 * q) * a (56 + 3 * q)
        rw [old (55 + 3 * q) (by omega) (by omega) (by omega), old (56 + 3 * q) (by omega) (by omega) (by omega)]⟩
    refine PM.add (b := 5) (i := 0) (n := nO) (g := gO (r_open a nO x1 x2)) hlt (hS 0 (by decide)).1 (hS 0 (by decide)).2 q54 (PM.rf s2 5 _ _) (fun t0 P0 => ?_)
    refine PM.add (b := 5) (i := 1) (n := nO) (g := gO (r_open a nO x1 x2)) hlt (hS 1 (by decide)).1 (hS 1 (by decide)).2 q55 P0 (fun t1 P1 => ?_)
    refine PM.add (b := 5) (i := 2) (n := nO) (g := gO (r_open a nO x1 x2)) hlt (hS 2 (by decide)).1 (hS 2 (by decide)).2 q56 P1 (fun t2 P2 => ?_)
    refine PM.add (b := 5) (i := 3) (n := nO) (g := gO (r_open a nO x1 x2)) hlt (hS 3 (by decide)).1 (hS 3 (by decide)).2 (by show r_open a nO x1 x2 (55 + 3 * nO) * r_open a nO x1 x2 (56 + 3 * nO) = x1 * x2; rw [q55, q56]) P2 (fun t3 P3 => ?_)
    have gt : ∀ f k s : Nat, ¬ (f ≤ 1 ∧ 5 ≤ k ∧ k < 9) → ¬ (f = 3 ∧ k = 0 ∧ s = 4) → rd t3 f k s = rd σ f k s := fun f k s m n => (P3.1 f k s m).trans (g f k s n)
    refine h t3 ⟨fun f k s m n => ?_, by rw [P3.2.2, hs2]; rfl⟩ (Same.mk0 ⟨?_, ?_, ?_, ?_, ?_, ?_, ?_, ?_, ?_, ?_, ?_⟩ (fun i hi => ⟨?_, fun q hq => ?_⟩) (fun i hi => P3.2.1 i hi) ⟨?_, fun q hq => ?_⟩)
    · unfold SIn at m
      exact gt f k s (by omega) (by omega)
    · rw [gt 4 0 6 (by omega) (by omega), old 0 (by omega) (by omega) (by omega)]; exact z6
    · rw [gt 4 0 3 (by omega) (by omega), old 1 (by omega) (by omega) (by omega)]; exact z3
    · rw [gt 4 0 5 (by omega) (by omega), old 2 (by omega) (by omega) (by omega)]; exact z5
    · rw [gt 4 0 4 (by omega) (by omega), old 3 (by omega) (by omega) (by omega)]; exact z4
    · rw [gt 4 0 7 (by omega) (by omega), old 4 (by omega) (by omega) (by omega)]; exact z7
    · rw [gt 4 0 8 (by omega) (by omega), old 5 (by omega) (by omega) (by omega)]; exact z8
    · rw [gt 4 0 9 (by omega) (by omega), old 6 (by omega) (by omega) (by omega)]; exact z9
    · rw [gt 4 0 10 (by omega) (by omega), old 7 (by omega) (by omega) (by omega)]; exact z10
    · rw [gt 4 0 11 (by omega) (by omega), old 8 (by omega) (by omega) (by omega)]; exact z11
    · rw [gt 2 0 5 (by omega) (by omega), old 9 (by omega) (by omega) (by omega)]; exact y2
    · rw [P3.1 3 0 4 (by omega), hs2, rd_wr, if_pos ⟨rfl, rfl, rfl⟩, y3, q10, e10, nI_1]
    · exact (gt 0 _ 1 (by omega) (by omega)).trans (S.rB i hi).1
    · exact (gt 1 _ q (by omega) (by omega)).trans (((S.rB i hi).2 q hq).trans (gB_cg (fun s _ _ => (old s (by omega) (by omega) (by omega)).symm) (by omega)))
    · exact (gt 0 9 1 (by omega) (by omega)).trans S.2.2.2.1
    · rw [gt 1 9 q (by omega) (by omega), old (78 + q) (by omega) (by omega) (by omega)]
      exact S.2.2.2.2.2.2 q hq
