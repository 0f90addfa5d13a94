/-! A CHANGE OF THE CLASS -/
theorem op_0 {t nB nO nP : Nat} {a : Nat → Int32} (x1 x2 x3 : Int32) (ht : t ≤ 512) (F : Fits t nB nO nP a) (G : Srt t nB nO a) : Ch 0 x1 x2 x3 [1, 2, 3] t nB nO nP a := by
  have hB := F.1.1
  have hO := F.1.2.1
  have hP := F.1.2.2.1
  have e11 : a 11 = nI nB := F.1.2.2.2.1
  obtain ⟨i0, hi0, e9⟩ := F.2.2.2.1
  have out : (x1 < 1 ∨ 50 < x1) ∨ (¬ (x1 < 1 ∨ 50 < x1) ∧ (x2 < 10 ∨ 60 < x2)) ∨ (¬ (x1 < 1 ∨ 50 < x1) ∧ ¬ (x2 < 10 ∨ 60 < x2) ∧ (x3 < 1 ∨ 20 < x3)) ∨ ∃ u w z : Nat, (1 ≤ u ∧ u ≤ 50 ∧ x1 = nI u) ∧ (10 ≤ w ∧ w ≤ 60 ∧ x2 = nI w) ∧ 1 ≤ z ∧ z ≤ 20 ∧ x3 = nI z := by
    rcases btw_or (x := x1) (lo := 1) (hi := 50) (l := 1) (h := 50) rfl rfl (by decide) (by decide) with hb | ⟨u, h1, h2, hx⟩
    · exact Or.inl hb
    · have n1 : ¬ (x1 < 1 ∨ 50 < x1) := by rw [hx]; exact in_nb rfl rfl h1 h2 (by decide)
      rcases btw_or (x := x2) (lo := 10) (hi := 60) (l := 10) (h := 60) rfl rfl (by decide) (by decide) with hb | ⟨w, h3, h4, hy⟩
      · exact Or.inr (Or.inl ⟨n1, hb⟩)
      · have n2 : ¬ (x2 < 10 ∨ 60 < x2) := by rw [hy]; exact in_nb rfl rfl h3 h4 (by decide)
        rcases btw_or (x := x3) (lo := 1) (hi := 20) (l := 1) (h := 20) rfl rfl (by decide) (by decide) with hb | ⟨z, h5, h6, hz⟩
        · exact Or.inr (Or.inr (Or.inl ⟨n1, n2, hb⟩))
        · exact Or.inr (Or.inr (Or.inr ⟨u, w, z, ⟨h1, h2, hx⟩, ⟨h3, h4, hy⟩, h5, h6, hz⟩))
  rcases out with hb | ⟨n1, hb⟩ | ⟨n1, n2, hb⟩ | ⟨u, w, z, ⟨h1, h2, hx⟩, ⟨h3, h4, hy⟩, h5, h6, hz⟩
  · refine Or.inl ⟨1, by simp, fun σ Q E S _ h => ?_⟩
    · exact ⟨fun _ => w_btw0 hb ⟨fun _ => h σ (FrS.rf σ), fun q => absurd rfl q⟩, fun q => absurd q (by decide), fun q => absurd q (by decide), fun q => absurd q (by decide), fun q => absurd q (by decide), fun q => absurd q (by decide), fun q => absurd q (by decide), fun q => absurd q (by decide), fun q => absurd q (by decide)⟩
  · refine Or.inl ⟨1, by simp, fun σ Q E S _ h => ?_⟩
    · exact ⟨fun _ => w_btw1 n1 ⟨fun q => absurd q (by decide), fun _ => w_btw0 hb ⟨fun _ => h σ (FrS.rf σ), fun q => absurd rfl q⟩⟩, fun q => absurd q (by decide), fun q => absurd q (by decide), fun q => absurd q (by decide), fun q => absurd q (by decide), fun q => absurd q (by decide), fun q => absurd q (by decide), fun q => absurd q (by decide), fun q => absurd q (by decide)⟩
  · refine Or.inl ⟨1, by simp, fun σ Q E S _ h => ?_⟩
    · exact ⟨fun _ => w_btw1 n1 ⟨fun q => absurd q (by decide), fun _ => w_btw1 n2 ⟨fun q => absurd q (by decide), fun _ => w_btw0 hb ⟨fun q => absurd rfl q, fun _ => h σ (FrS.rf σ)⟩⟩⟩, fun q => absurd q (by decide), fun q => absurd q (by decide), fun q => absurd q (by decide), fun q => absurd q (by decide), fun q => absurd q (by decide), fun q => absurd q (by decide), fun q => absurd q (by decide), fun q => absurd q (by decide)⟩
  have n1 : ¬ (x1 < 1 ∨ 50 < x1) := by rw [hx]; exact in_nb rfl rfl h1 h2 (by decide)
  have n2 : ¬ (x2 < 10 ∨ 60 < x2) := by rw [hy]; exact in_nb rfl rfl h3 h4 (by decide)
  have n3 : ¬ (x3 < 1 ∨ 20 < x3) := by rw [hz]; exact in_nb rfl rfl h5 h6 (by decide)
  by_cases hfull : nB = 10
  · refine Or.inl ⟨2, by simp, fun σ Q E S _ h => ?_⟩
    · exact ⟨fun _ => w_btw1 n1 ⟨fun q => absurd q (by decide), fun _ => w_btw1 n2 ⟨fun q => absurd q (by decide), fun _ => w_btw1 n3 ⟨fun _ => w_full1 (n := nB) (S.rB 0 (by decide)).1 (by rw [hfull]; decide) (by omega) ⟨fun q => absurd q (by decide), fun _ => h σ (FrS.rf σ)⟩, fun q => absurd q (by decide)⟩⟩⟩, fun q => absurd q (by decide), fun q => absurd q (by decide), fun q => absurd q (by decide), fun q => absurd q (by decide), fun q => absurd q (by decide), fun q => absurd q (by decide), fun q => absurd q (by decide), fun q => absurd q (by decide)⟩
  have hlt : nB < 10 := by omega
  by_cases hc : x1 * x3 ≤ a 0
  rotate_left
  · refine Or.inl ⟨3, by simp, fun σ Q E S _ h => ?_⟩
    · have hc' : ¬ x1 * x3 ≤ rd σ 4 0 6 := by rw [S.1.1]; exact hc
      exact ⟨fun _ => w_btw1 n1 ⟨fun q => absurd q (by decide), fun _ => w_btw1 n2 ⟨fun q => absurd q (by decide), fun _ => w_btw1 n3 ⟨fun _ => w_full0 (n := nB) (S.rB 0 (by decide)).1 hlt ⟨fun _ => ⟨fun q => absurd q hc', fun _ => h σ (FrS.rf σ)⟩, fun q => absurd rfl q⟩, fun q => absurd q (by decide)⟩⟩⟩, fun q => absurd q (by decide), fun q => absurd q (by decide), fun q => absurd q (by decide), fun q => absurd q (by decide), fun q => absurd q (by decide), fun q => absurd q (by decide), fun q => absurd q (by decide), fun q => absurd q (by decide)⟩
  have old : ∀ s : Nat, s ≠ 9 → s ≠ 11 → s ≠ 4 → s ≠ 0 → (s < 14 + 4 * nB ∨ 17 + 4 * nB < s) → r_buy a nB x1 x2 x3 s = a s := by
    intro s s1 s2 s3 s4 s5
    unfold r_buy
    rw [up_ne s1, up_ne s2, up_ne s3, up_ne s4, up_ne (by omega), up_ne (by omega), up_ne (by omega), up_ne (by omega)]
  have q14 : r_buy a nB x1 x2 x3 (14 + 4 * nB) = a 9 := by
    unfold r_buy
    rw [up_ne (by omega), up_ne (by omega), up_ne (by omega), up_ne (by omega), up_ne (by omega), up_ne (by omega), up_ne (by omega), up_eq]
  have q15 : r_buy a nB x1 x2 x3 (15 + 4 * nB) = x1 := by
    unfold r_buy
    rw [up_ne (by omega), up_ne (by omega), up_ne (by omega), up_ne (by omega), up_ne (by omega), up_ne (by omega), up_eq]
  have q16 : r_buy a nB x1 x2 x3 (16 + 4 * nB) = x2 := by
    unfold r_buy
    rw [up_ne (by omega), up_ne (by omega), up_ne (by omega), up_ne (by omega), up_ne (by omega), up_eq]
  have q17 : r_buy a nB x1 x2 x3 (17 + 4 * nB) = x3 := by
    unfold r_buy
    rw [up_ne (by omega), up_ne (by omega), up_ne (by omega), up_ne (by omega), up_eq]
  have q0 : r_buy a nB x1 x2 x3 0 = a 0 - x1 * x3 := by
    unfold r_buy
    rw [up_ne (by omega), up_ne (by omega), up_ne (by omega), up_eq]
  have q4 : r_buy a nB x1 x2 x3 4 = a 4 + x1 * x3 := by
    unfold r_buy
    rw [up_ne (by omega), up_ne (by omega), up_eq]
  have q11 : r_buy a nB x1 x2 x3 11 = nI (nB + 1) := by
    unfold r_buy
    rw [up_ne (by omega), up_eq, e11, nI_1]
  have q9 : r_buy a nB x1 x2 x3 9 = nI (i0 + 1) := by
    unfold r_buy
    rw [up_eq, e9, nI_1]
  refine Or.inr ⟨nB + 1, nO, nP, r_buy a nB x1 x2 x3, a 9, ⟨?_, ?_, ?_⟩, fun σ Q E S _ h => ?_, fun σ Q E S _ h => ?_⟩
  · obtain ⟨⟨f1, f2, f3, f4, f5, f6⟩, g1, g2, g3, g4, g5, g6, ⟨p, p1, p2, p3⟩, g8⟩ := F.mono (Nat.le_succ t)
    refine ⟨⟨hlt, f2, f3, q11, ?_, ?_⟩, ?_, ?_, ⟨i0 + 1, by omega, q9⟩, ?_, fun q hq => ?_, fun q hq => ?_, ⟨p, fun q hq => ?_, p2, ?_⟩, ?_⟩
    · rw [old 12 (by omega) (by omega) (by omega) (by omega) (by omega)]; exact f5
    · rw [old 13 (by omega) (by omega) (by omega) (by omega) (by omega)]; exact f6
    · rw [old 3 (by omega) (by omega) (by omega) (by omega) (by omega)]; exact g1
    · rw [old 1 (by omega) (by omega) (by omega) (by omega) (by omega)]; exact g2
    · rw [old 10 (by omega) (by omega) (by omega) (by omega) (by omega)]; exact g4
    · by_cases e : q = nB
      · subst e
        rw [q14, q15, q16, q17]
        exact ⟨⟨i0, by omega, e9⟩, ⟨u, h1, h2, hx⟩, ⟨w, h3, h4, hy⟩, z, h5, h6, hz⟩
      · rw [old (14 + 4 * q) (by omega) (by omega) (by omega) (by omega) (by omega), old (15 + 4 * q) (by omega) (by omega) (by omega) (by omega) (by omega), old (16 + 4 * q) (by omega) (by omega) (by omega) (by omega) (by omega), old (17 + 4 * q) (by omega) (by omega) (by omega) (by omega) (by omega)]
        exact g5 q (by omega)
    · rw [old (54 + 3 * q) (by omega) (by omega) (by omega) (by omega) (by omega), old (55 + 3 * q) (by omega) (by omega) (by omega) (by omega) (by omega), old (56 + 3 * q) (by omega) (by omega) (by omega) (by omega) (by omega)]
      exact g6 q (by omega)
    · rw [old (78 + q) (by omega) (by omega) (by omega) (by omega) (by omega)]
      exact p1 q hq
    · rw [old 6 (by omega) (by omega) (by omega) (by omega) (by omega), old 8 (by omega) (by omega) (by omega) (by omega) (by omega), old 7 (by omega) (by omega) (by omega) (by omega) (by omega)]
      exact p3
    · rw [q0, q4, old 5 (by omega) (by omega) (by omega) (by omega) (by omega), g8]
      generalize x1 * x3 = y
      grind
  · refine ⟨?_, G.2.1.app (fun q hq => old _ (by omega) (by omega) (by omega) (by omega) (by omega)) q14 (by rw [q9, e9, nI_1]), G.2.2.cg (Nat.le_succ t) (fun q hq => old _ (by omega) (by omega) (by omega) (by omega) (by omega)) (old 10 (by omega) (by omega) (by omega) (by omega) (by omega))⟩
    rw [q0]
    have hm : u * z ≤ 50 * 20 := Nat.mul_le_mul h2 h6
    exact G.1.sub ht (by rw [hx, hz, pk_mul]) (by omega) hc
  · exact ⟨i0, by omega, e9⟩
  · have hc' : x1 * x3 ≤ rd σ 4 0 6 := by rw [S.1.1]; exact hc
    exact ⟨fun _ => w_btw1 n1 ⟨fun q => absurd q (by decide), fun _ => w_btw1 n2 ⟨fun q => absurd q (by decide), fun _ => w_btw1 n3 ⟨fun _ => w_full0 (n := nB) (S.rB 0 (by decide)).1 hlt ⟨fun _ => ⟨fun _ => h σ (FrS.rf σ), fun q => absurd hc' q⟩, fun q => absurd rfl q⟩, fun q => absurd q (by decide)⟩⟩⟩, fun q => absurd q (by decide), fun q => absurd q (by decide), fun q => absurd q (by decide), fun q => absurd q (by decide), fun q => absurd q (by decide), fun q => absurd q (by decide), fun q => absurd q (by decide), fun q => absurd q (by decide)⟩
  · refine ⟨fun _ => ?_, fun q => absurd q (by decide), fun q => absurd q (by decide), fun q => absurd q (by decide), fun q => absurd q (by decide), fun q => absurd q (by decide), fun q => absurd q (by decide), fun q => absurd q (by decide), fun q => absurd q (by decide)⟩
    intro w1 hw1 w2 hw2 v hv s2 hs2
    obtain ⟨z6, z3, z5, z4, z7, z8, z9, z10, z11, y2, y3⟩ := S.1
    have g : ∀ f k s : Nat, ¬ (f = 2 ∧ k = 0 ∧ s = 5) → ¬ (f = 4 ∧ k = 0 ∧ (s = 6 ∨ s = 7)) → rd s2 f k s = rd σ f k s := fun f k s n m => by rw [hs2, rd_wr, if_neg n, hw2, rd_wr, if_neg (by omega), hw1, rd_wr, if_neg (by omega)]
    have e25 : rd w2 2 0 5 = a 9 := by rw [hw2, rd_wr, if_neg (by omega), hw1, rd_wr, if_neg (by omega)]; exact y2
    have hv' : v = a 9 := hv.trans e25
    subst hv'
    have hS : ∀ i : Nat, i < 5 → rd s2 0 (0 + i) 1 = nI nB ∧ ∀ q : Nat, q < nB → gB (r_buy a nB x1 x2 x3) i q = rd s2 1 (0 + i) q := fun i hi => ⟨(g 0 _ 1 (by omega) (by omega)).trans (S.rB i hi).1, fun q hq => by
      rw [g 1 _ q (by omega) (by omega), (S.rB i hi).2 q hq]
      match i, hi with
      | 0, _ => exact old _ (by omega) (by omega) (by omega) (by omega) (by omega)
      | 1, _ => exact old _ (by omega) (by omega) (by omega) (by omega) (by omega)
      | 2, _ => exact old _ (by omega) (by omega) (by omega) (by omega) (by omega)
      | 3, _ => exact old _ (by omega) (by omega) (by omega) (by omega) (by omega)
      | 4, _ =>
        show r_buy a nB x1 x2 x3 (15 + 4 * q) * r_buy a nB x1 x2 x3 (17 + 4 * q) = a (15 + 4 * q) * a (17 + 4 * q)
        rw [old (15 + 4 * q) (by omega) (by omega) (by omega) (by omega) (by omega), old (17 + 4 * q) (by omega) (by omega) (by omega) (by omega) (by omega)]⟩
    refine PM.add (b := 0) (i := 0) (n := nB) (g := gB (r_buy a nB x1 x2 x3)) hlt (hS 0 (by decide)).1 (hS 0 (by decide)).2 q14 (PM.rf s2 0 _ _) (fun t0 P0 => ?_)
    refine PM.add (b := 0) (i := 1) (n := nB) (g := gB (r_buy a nB x1 x2 x3)) hlt (hS 1 (by decide)).1 (hS 1 (by decide)).2 q15 P0 (fun t1 P1 => ?_)
    refine PM.add (b := 0) (i := 2) (n := nB) (g := gB (r_buy a nB x1 x2 x3)) hlt (hS 2 (by decide)).1 (hS 2 (by decide)).2 q16 P1 (fun t2 P2 => ?_)
    refine PM.add (b := 0) (i := 3) (n := nB) (g := gB (r_buy a nB x1 x2 x3)) hlt (hS 3 (by decide)).1 (hS 3 (by decide)).2 q17 P2 (fun t3 P3 => ?_)
    refine PM.add (b := 0) (i := 4) (n := nB) (g := gB (r_buy a nB x1 x2 x3)) hlt (hS 4 (by decide)).1 (hS 4 (by decide)).2 (by show r_buy a nB x1 x2 x3 (15 + 4 * nB) * r_buy a nB x1 x2 x3 (17 + 4 * nB) = x1 * x3; rw [q15, q17]) P3 (fun t4 P4 => ?_)
    have gt : ∀ f k s : Nat, ¬ (f ≤ 1 ∧ 0 ≤ k ∧ k < 5) → ¬ (f = 2 ∧ k = 0 ∧ s = 5) → ¬ (f = 4 ∧ k = 0 ∧ (s = 6 ∨ s = 7)) → rd t4 f k s = rd σ f k s := fun f k s m n o => (P4.1 f k s m).trans (g f k s n o)
    refine h t4 ⟨fun f k s m n => ?_, by rw [P4.2.2, hs2, hw2, hw1]; rfl⟩ (Same.mk0 ⟨?_, ?_, ?_, ?_, ?_, ?_, ?_, ?_, ?_, ?_, ?_⟩ (fun i hi => P4.2.1 i hi) (fun i hi => ⟨?_, fun q hq => ?_⟩) ⟨?_, fun q hq => ?_⟩)
    · unfold SIn at m
      exact gt f k s (by omega) (by omega) (by omega)
    · rw [P4.1 4 0 6 (by omega), hs2, rd_wr, if_neg (by omega), hw2, rd_wr, if_neg (by omega), hw1, rd_wr, if_pos ⟨rfl, rfl, rfl⟩, z6, q0]
    · rw [gt 4 0 3 (by omega) (by omega) (by omega), old 1 (by omega) (by omega) (by omega) (by omega) (by omega)]; exact z3
    · rw [gt 4 0 5 (by omega) (by omega) (by omega), old 2 (by omega) (by omega) (by omega) (by omega) (by omega)]; exact z5
    · rw [gt 4 0 4 (by omega) (by omega) (by omega), old 3 (by omega) (by omega) (by omega) (by omega) (by omega)]; exact z4
    · rw [P4.1 4 0 7 (by omega), hs2, rd_wr, if_neg (by omega), hw2, rd_wr, if_pos ⟨rfl, rfl, rfl⟩, hw1, rd_wr, if_neg (by omega), z7, q4]
    · rw [gt 4 0 8 (by omega) (by omega) (by omega), old 5 (by omega) (by omega) (by omega) (by omega) (by omega)]; exact z8
    · rw [gt 4 0 9 (by omega) (by omega) (by omega), old 6 (by omega) (by omega) (by omega) (by omega) (by omega)]; exact z9
    · rw [gt 4 0 10 (by omega) (by omega) (by omega), old 7 (by omega) (by omega) (by omega) (by omega) (by omega)]; exact z10
    · rw [gt 4 0 11 (by omega) (by omega) (by omega), old 8 (by omega) (by omega) (by omega) (by omega) (by omega)]; exact z11
    · rw [P4.1 2 0 5 (by omega), hs2, rd_wr, if_pos ⟨rfl, rfl, rfl⟩, e25, q9, e9, nI_1]
    · rw [gt 3 0 4 (by omega) (by omega) (by omega), old 10 (by omega) (by omega) (by omega) (by omega) (by omega)]; exact y3
    · exact (gt 0 _ 1 (by omega) (by omega) (by omega)).trans (S.rO i hi).1
    · exact (gt 1 _ q (by omega) (by omega) (by omega)).trans (((S.rO i hi).2 q hq).trans (gO_cg (fun s _ _ => (old s (by omega) (by omega) (by omega) (by omega) (by omega)).symm) (by omega)))
    · exact (gt 0 9 1 (by omega) (by omega) (by omega)).trans S.2.2.2.1
    · rw [gt 1 9 q (by omega) (by omega) (by omega), old (78 + q) (by omega) (by omega) (by omega) (by omega) (by omega)]
      exact S.2.2.2.2.2.2 q hq
