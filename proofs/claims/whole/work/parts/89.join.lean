/-! COSTS TOLD; ALL PIECES SPLICED -/
theorem kpx {σ τ : Mem} {c : Nat} (hc : c = 5 ∨ c = 6 ∨ c = 13) (h : ∀ f k s : Nat, ¬ (f = 10 ∧ k = c) → rd τ f k s = rd σ f k s) (h2 : τ.2 = σ.2) : Kp σ τ := by
  refine ⟨fun f k s e => h f k s ?_, by rw [h2]⟩
  rintro ⟨rfl, rfl⟩
  rcases hc with rfl | rfl | rfl <;> simp [ess] at e
theorem pie_p {t nB nO nP : Nat} {a : Nat → Int32} (F : Fits t nB nO nP a) (ht : t ≤ 512) : ∃ p : Nat → Nat, (∀ q : Nat, q < nP → 1 ≤ p q) ∧ (∀ q : Nat, q < nP → a (78 + q) = nI (p q)) ∧ sumN p nP ≤ 20480 := by
  obtain ⟨p, hp, hs, -⟩ := F.2.2.2.2.2.2.2.1
  exact ⟨p, fun q hq => (hp q hq).1, fun q hq => (hp q hq).2, by omega⟩
theorem pC_33 {j : Nat} {σ : Mem} (I : Inv j σ) (hj : j < 512) : wC_33 σ (Inv (j + 1)) := by
  obtain ⟨t, nB, nO, nP, htj, F, S⟩ := I.st
  have hP := F.1.2.2.1
  have e13 := F.1.2.2.2.2.2
  obtain ⟨p, p1, p2, p3⟩ := pie_p F (by omega)
  unfold wC_33 wX12_spliceCost wX13_spliceCost
  refine w_table (p := p) hP p3 p1 S.2.2.2.1 (fun q hq => (S.2.2.2.2.2.2 q hq).trans (p2 q hq)) (fun τ t1 t2 => ?_)
  intro s1 hs1
  subst hs1
  refine w_cost (p := p) (n := nP) hP p3 p1 (by rw [rd_wr, if_neg (by omega), t1 10 8 13 (by omega)]; exact e13) (fun q hq => by rw [rd_wr, if_neg (by omega), t1 10 8 _ (by omega)]; exact p2 q hq) (fun y y1 y2 => ⟨rfl, I.to ?_⟩)
  exact (kpx (c := 5) (by omega) t1 t2).tr ((kp7 τ 0).tr (kpx (c := 13) (by omega) y1 y2))
theorem pC_34 {j : Nat} {σ : Mem} (I : Inv j σ) (hj : j < 512) : wC_34 σ (Inv (j + 1)) := by
  obtain ⟨t, nB, nO, nP, htj, F, S⟩ := I.st
  have hP := F.1.2.2.1
  have e13 := F.1.2.2.2.2.2
  obtain ⟨p, p1, p2, p3⟩ := pie_p F (by omega)
  unfold wC_34 wX12_spliceCostByMemory wX13_spliceCostByMemory wX13_spliceCost
  refine w_memory (p := p) hP p3 p1 S.2.2.2.1 (fun q hq => (S.2.2.2.2.2.2 q hq).trans (p2 q hq)) (fun τ t1 t2 => ?_)
  intro s1 hs1
  subst hs1
  refine w_cost (p := p) (n := nP) hP p3 p1 (by rw [rd_wr, if_neg (by omega), t1 10 8 13 (by omega)]; exact e13) (fun q hq => by rw [rd_wr, if_neg (by omega), t1 10 8 _ (by omega)]; exact p2 q hq) (fun y y1 y2 => ⟨rfl, I.to ?_⟩)
  exact (kpx (c := 6) (by omega) t1 t2).tr ((kp7 τ 0).tr (kpx (c := 13) (by omega) y1 y2))
/-- the reference's row with the cells of the pieces behind the first cleared -/
def r_clr (a : Nat → Int32) (u : Nat) : Nat → Int32 := fun s => if 79 ≤ s ∧ s < u then 0 else a s
def r_join (a : Nat → Int32) (n c l : Nat) : Nat → Int32 := up (up (r_clr (up (up a 2 (a 2 + nI c)) 7 (a 7 + nI n)) 90) 78 (nI l)) 13 1
theorem join_o {a : Nat → Int32} {n c l s : Nat} (h : s < 78) (h2 : s ≠ 2) (h7 : s ≠ 7) (h13 : s ≠ 13) : r_join a n c l s = a s := by
  unfold r_join r_clr
  rw [up_ne h13, up_ne (by omega), if_neg (by omega), up_ne h7, up_ne h2]
theorem join_2 {a : Nat → Int32} {n c l : Nat} : r_join a n c l 2 = a 2 + nI c := by
  unfold r_join r_clr
  rw [up_ne (by omega), up_ne (by omega), if_neg (by omega), up_ne (by omega), up_eq]
theorem join_7 {a : Nat → Int32} {n c l : Nat} : r_join a n c l 7 = a 7 + nI n := by
  unfold r_join r_clr
  rw [up_ne (by omega), up_ne (by omega), if_neg (by omega), up_eq]
theorem join_78 {a : Nat → Int32} {n c l : Nat} : r_join a n c l 78 = nI l := by
  unfold r_join
  rw [up_ne (by omega), up_eq]
theorem w_clr {x : Int32} {σ : Mem} {Q : Int32 → Mem → Prop} {E : String → Mem → Prop} {X : Int32 → Mem → Prop} (h : ∀ τ : Mem, FrR σ τ → rd τ 15 0 7 = rd σ 15 0 7 → rd τ 10 8 = r_clr (rd σ 10 8) 90 → X x τ) : ∃ m : Nat, wX13_joins_75 Q E X m x 1 σ := by
  have key : ∀ (u m : Nat) (σ' : Mem), m + u = 12 → 1 ≤ m → FrR σ σ' → rd σ' 15 0 7 = rd σ 15 0 7 → rd σ' 10 8 = r_clr (rd σ 10 8) (78 + m) → wX13_joins_75 Q E X (u + 1) x (nI m) σ' := by
    intro u
    induction u with
    | zero =>
      intro m σ' hm _ p1 p2 p3
      obtain rfl : m = 12 := by omega
      exact ⟨fun _ => h σ' p1 p2 p3, fun r => absurd (show (12 : Int32) ≤ nI 12 by decide) r⟩
    | succ u ih =>
      intro m σ' hm h1 p1 p2 p3
      refine ⟨fun r => absurd (show nI 12 ≤ nI m from r) (nI_ge (by omega) (by omega)), fun _ => ⟨(piece_ix (show m < 12 by omega)).1, fun s9 h9 v hv => ?_⟩⟩
      rw [(piece_ix (show m < 12 by omega)).2] at h9
      rw [nI_1] at hv
      rw [hv]
      refine ih (m + 1) s9 (by omega) (by omega) (by rw [h9]; exact p1.w8 _ _) (by rw [h9, th_8]; exact p2) ?_
      rw [h9, row_8, p3]
      funext s
      unfold r_clr
      by_cases c : s = 78 + m
      · rw [c, up_eq, if_pos (by omega)]
      · rw [up_ne c]
        by_cases c2 : 79 ≤ s ∧ s < 78 + m
        · rw [if_pos c2, if_pos (by omega)]
        · rw [if_neg c2, if_neg (by omega)]
  refine ⟨12, key 11 1 σ (by omega) (by omega) (FrR.rf σ) rfl (funext fun s => ?_)⟩
  unfold r_clr
  rw [if_neg (by omega)]
theorem op_7 {t nB nO nP : Nat} {a : Nat → Int32} (ht : t ≤ 512) (F : Fits t nB nO nP a) : Ch 7 0 0 0 [(2, 1)] wX13_joins t nB nO nP a := by
  have hB := F.1.1
  have hO := F.1.2.1
  have hP := F.1.2.2.1
  have e13 : a 13 = nI nP := F.1.2.2.2.2.2
  by_cases c2 : 2 ≤ nP
  rotate_left
  · refine Or.inl ⟨2, 1, by simp, fun σ Q E S _ h => ?_, fun σ Q E ha h => ?_⟩
    · refine ⟨fun q => absurd q (by decide), fun q => absurd q (by decide), fun q => absurd q (by decide), fun q => absurd q (by decide), fun q => absurd q (by decide), fun q => absurd q (by decide), fun q => absurd q (by decide), fun _ => ?_, fun q => absurd q (by decide)⟩
      show (2 ≤ rd σ 0 9 1 → Q 0 σ) ∧ (¬ 2 ≤ rd σ 0 9 1 → Q 2 σ)
      rw [show rd σ 0 9 1 = nI nP from S.2.2.2.1, show (2 : Int32) = nI 2 from rfl, nI_leI (by omega) (by omega)]
      exact ⟨fun q => absurd q c2, fun _ => h σ (FrS.rf σ)⟩
    · subst ha
      unfold wX13_joins
      rw [e13, show (2 : Int32) = nI 2 from rfl, nI_leI (by omega) (by omega)]
      refine ⟨fun q => absurd q c2, fun _ => ?_⟩
      exact w_thr1 ⟨fun q => absurd q (by decide), fun _ => thr_end σ (FrR.rf σ) rfl h⟩
  obtain ⟨n, rfl⟩ : ∃ n, nP = n + 1 := ⟨nP - 1, by omega⟩
  obtain ⟨p, p1, p2, p3⟩ := pie_p F ht
  have hge : n + 1 ≤ sumN p (n + 1) := by
    have := sR_ge (p := p) (f := 0) (k := n + 1) (n := n + 1) (by omega) p1
    rw [show sR p 0 (n + 1) = sumN p (n + 1) from sumN_cg fun q _ => by rw [Nat.zero_add]] at this
    exact this
  have o : ∀ s : Nat, s < 78 → s ≠ 2 → s ≠ 7 → s ≠ 13 → r_join a n (cC p n 0) (sumN p (n + 1) - n) s = a s := fun s h h2 h7 h13 => join_o h h2 h7 h13
  refine Or.inr ⟨nB, nO, 1, r_join a n (cC p n 0) (sumN p (n + 1) - n), nI (sumN p (n + 1) - n), ?_, fun σ Q E S _ h => ?_, fun σ Q E S _ h => ?_, fun σ Q E ha h => ?_⟩
  · obtain ⟨⟨f1, f2, f3, f4, f5, f6⟩, g1, g2, g3, g4, g5, g6, ⟨p', p1', p2', p3'⟩, g8⟩ := F.mono (Nat.le_succ t)
    have es : sumN p' (n + 1) = sumN p (n + 1) := sumN_cg fun q hq => by
      have e1 := (p1' q hq).2
      rw [p2 q hq] at e1
      have b1 := sumN_ge (p := p) hq
      have b2 := sumN_ge (p := p') hq
      exact ((nI_eq (by omega) (by omega)).mp e1).symm
    refine ⟨⟨f1, f2, by omega, ?_, ?_, up_eq _ _ _⟩, ?_, ?_, ?_, ?_, fun q hq => ?_, fun q hq => ?_, ⟨fun _ => sumN p (n + 1) - n, fun q hq => ?_, ?_, ?_⟩, ?_⟩
    · rw [o 11 (by omega) (by omega) (by omega) (by omega)]; exact f4
    · rw [o 12 (by omega) (by omega) (by omega) (by omega)]; exact f5
    · rw [o 3 (by omega) (by omega) (by omega) (by omega)]; exact g1
    · rw [o 1 (by omega) (by omega) (by omega) (by omega)]; exact g2
    · rw [o 9 (by omega) (by omega) (by omega) (by omega)]; exact g3
    · rw [o 10 (by omega) (by omega) (by omega) (by omega)]; exact g4
    · rw [o (14 + 4 * q) (by omega) (by omega) (by omega) (by omega), o (15 + 4 * q) (by omega) (by omega) (by omega) (by omega), o (16 + 4 * q) (by omega) (by omega) (by omega) (by omega), o (17 + 4 * q) (by omega) (by omega) (by omega) (by omega)]
      exact g5 q hq
    · rw [o (54 + 3 * q) (by omega) (by omega) (by omega) (by omega), o (55 + 3 * q) (by omega) (by omega) (by omega) (by omega), o (56 + 3 * q) (by omega) (by omega) (by omega) (by omega)]
      exact g6 q hq
    · obtain rfl : q = 0 := by omega
      show 1 ≤ sumN p (n + 1) - n ∧ _
      exact ⟨by omega, join_78⟩
    · show 0 + (sumN p (n + 1) - n) ≤ 40 * (t + 1)
      omega
    · show _ = nI (0 + (sumN p (n + 1) - n))
      rw [Nat.zero_add, o 6 (by omega) (by omega) (by omega) (by omega), o 8 (by omega) (by omega) (by omega) (by omega), join_7]
      have e2 : a 6 - a 8 - (a 7 + nI n) = a 6 - a 8 - a 7 - nI n := by grind
      rw [e2, p3', es, pk_sub (by omega)]
    · rw [o 0 (by omega) (by omega) (by omega) (by omega), o 4 (by omega) (by omega) (by omega) (by omega), o 5 (by omega) (by omega) (by omega) (by omega)]
      exact g8
  · refine ⟨fun q => absurd q (by decide), fun q => absurd q (by decide), fun q => absurd q (by decide), fun q => absurd q (by decide), fun q => absurd q (by decide), fun q => absurd q (by decide), fun q => absurd q (by decide), fun _ => ?_, fun q => absurd q (by decide)⟩
    show (2 ≤ rd σ 0 9 1 → Q 0 σ) ∧ (¬ 2 ≤ rd σ 0 9 1 → Q 2 σ)
    rw [show rd σ 0 9 1 = nI (n + 1) from S.2.2.2.1, show (2 : Int32) = nI 2 from rfl, nI_leI (by omega) (by omega)]
    exact ⟨fun _ => h σ (FrS.rf σ), fun q => absurd c2 q⟩
  · obtain ⟨z6, z3, z5, z4, z7, z8, z9, z10, z11, y2, y3⟩ := S.1
    refine ⟨fun q => absurd q (by decide), fun q => absurd q (by decide), fun q => absurd q (by decide), fun q => absurd q (by decide), fun q => absurd q (by decide), fun q => absurd q (by decide), fun q => absurd q (by decide), fun _ => w_table (p := p) hP p3 p1 S.2.2.2.1 (fun q hq => (S.2.2.2.2.2.2 q hq).trans (p2 q hq)) (fun τ t1 t2 => ?_), fun q => absurd q (by decide)⟩
    have k9 : rd τ 0 9 1 = nI (n + 1) := (t1 0 9 1 (by omega)).trans S.2.2.2.1
    intro v2 h2
    rw [show rd τ 0 (10 * 0 + 9) 1 = nI (n + 1) from k9, nI_pred] at h2
    subst h2
    refine w_sum (k := 9) (p := p) k9 hP (fun q hq => ((t1 1 9 q (by omega)).trans (S.2.2.2.2.2.2 q hq)).trans (p2 q hq)) ?_
    intro v3 h3 s8 h8
    rw [pk_sub (by omega)] at h3
    subst h3
    refine w_add (k := 9) (n := 0) (by rw [h8, rd_wr, if_pos ⟨rfl, rfl, rfl⟩]; rfl) (by decide) (fun y y1 y2' y3' y4 => ?_)
    intro s11 h11 s12 h12
    have gt : ∀ f k s : Nat, ¬ (f ≤ 1 ∧ k = 9) → ¬ (f = 4 ∧ k = 0 ∧ (s = 5 ∨ s = 10)) → ¬ (f = 10 ∧ k = 5) → rd s12 f k s = rd σ f k s := fun f k s m m2 m3 => by rw [h12, rd_wr, if_neg (by omega), h11, rd_wr, if_neg (by omega), y1 f k s m, h8, rd_wr, if_neg (by omega), t1 f k s m3]
    refine h s12 ⟨fun f k s m m2 => gt f k s (by unfold SIn at m; omega) (by unfold SIn at m; omega) (by unfold scr at m2; omega), by rw [h12, h11]; show y.2 = _; rw [y2', h8]; exact t2⟩ (Same.mk0 ⟨?_, ?_, ?_, ?_, ?_, ?_, ?_, ?_, ?_, ?_, ?_⟩ (fun j hj => ⟨?_, fun q hq => ?_⟩) (fun j hj => ⟨?_, fun q hq => ?_⟩) ⟨?_, fun q hq => ?_⟩)
    · rw [gt 4 0 6 (by omega) (by omega) (by omega), o 0 (by omega) (by omega) (by omega) (by omega)]; exact z6
    · rw [gt 4 0 3 (by omega) (by omega) (by omega), o 1 (by omega) (by omega) (by omega) (by omega)]; exact z3
    · rw [h12, rd_wr, if_neg (by omega), h11, rd_wr, if_pos ⟨rfl, rfl, rfl⟩, y1 4 0 5 (by omega), h8, rd_wr, if_neg (by omega), t1 4 0 5 (by omega), z5, join_2]
      rfl
    · rw [gt 4 0 4 (by omega) (by omega) (by omega), o 3 (by omega) (by omega) (by omega) (by omega)]; exact z4
    · rw [gt 4 0 7 (by omega) (by omega) (by omega), o 4 (by omega) (by omega) (by omega) (by omega)]; exact z7
    · rw [gt 4 0 8 (by omega) (by omega) (by omega), o 5 (by omega) (by omega) (by omega) (by omega)]; exact z8
    · rw [gt 4 0 9 (by omega) (by omega) (by omega), o 6 (by omega) (by omega) (by omega) (by omega)]; exact z9
    · rw [h12, rd_wr, if_pos ⟨rfl, rfl, rfl⟩, h11, rd_wr, if_neg (by omega), y1 4 0 10 (by omega), h8, rd_wr, if_neg (by omega), t1 4 0 10 (by omega), z10, join_7]
    · rw [gt 4 0 11 (by omega) (by omega) (by omega), o 8 (by omega) (by omega) (by omega) (by omega)]; exact z11
    · rw [gt 2 0 5 (by omega) (by omega) (by omega), o 9 (by omega) (by omega) (by omega) (by omega)]; exact y2
    · rw [gt 3 0 4 (by omega) (by omega) (by omega), o 10 (by omega) (by omega) (by omega) (by omega)]; exact y3
    · exact (gt 0 _ 1 (by omega) (by omega) (by omega)).trans (S.rB j hj).1
    · exact (gt 1 _ q (by omega) (by omega) (by omega)).trans (((S.rB j hj).2 q hq).trans (gB_cg (fun s _ _ => (o s (by omega) (by omega) (by omega) (by omega)).symm) (by omega)))
    · exact (gt 0 _ 1 (by omega) (by omega) (by omega)).trans (S.rO j hj).1
    · exact (gt 1 _ q (by omega) (by omega) (by omega)).trans (((S.rO j hj).2 q hq).trans (gO_cg (fun s _ _ => (o s (by omega) (by omega) (by omega) (by omega)).symm) (by omega)))
    · rw [h12, rd_wr, if_neg (by omega), h11, rd_wr, if_neg (by omega)]
      exact y3'
    · obtain rfl : q = 0 := by omega
      rw [h12, rd_wr, if_neg (by omega), h11, rd_wr, if_neg (by omega), y4, if_pos rfl]
      exact join_78.symm
  · subst ha
    unfold wX13_joins
    rw [e13, show (2 : Int32) = nI 2 from rfl, nI_leI (by omega) (by omega)]
    refine ⟨fun _ => ?_, fun q => absurd c2 q⟩
    refine w_thr0 ⟨fun _ => ?_, fun q => absurd rfl q⟩
    rw [row_7, e13, nI_pred]
    have hp7 : ∀ q : Nat, q < n + 1 → rd (wr σ 15 0 7 0) 10 8 (78 + q) = nI (p q) := fun q hq => by rw [row_7]; exact p2 q hq
    refine w_spliced (p := p) (n := n + 1) (a := 0) (e := n) rfl (by rw [Nat.zero_add]) hP p1 hp7 (by omega) ?_
    rw [show sR p 0 (n + 1) = sumN p (n + 1) from sumN_cg fun q _ => by rw [Nat.zero_add]]
    refine w_cost (p := p) (n := n + 1) hP p3 p1 (by rw [row_7]; exact e13) hp7 (fun τ t1 t2 => ?_)
    have e8 : rd τ 10 8 = rd σ 10 8 := by
      rw [← row_7 σ 0]
      exact funext fun s => t1 10 8 s (by omega)
    intro s7 h7 s8 h8
    have er : rd s8 10 8 = up (up (rd σ 10 8) 2 (rd σ 10 8 2 + nI (cC p n 0))) 7 (rd σ 10 8 7 + nI n) := by
      rw [h8, row_8, h7, row_8, e8, row_7]
      repeat (first | rw [up_ne (by omega)] | rw [up_eq])
      rw [e13, nI_pred]
      rfl
    refine w_clr (fun y y1 y2 y3 => ?_)
    intro s13 h13 s14 h14
    refine h s14 ?_ ?_ ?_
    · rw [h14, h13]
      refine FrR.w8 (FrR.w8 (FrR.tr ?_ y1) _ _) _ _
      rw [h8, h7]
      refine FrR.w8 (FrR.w8 ?_ _ _) _ _
      exact ⟨fun f k s m m2 => by rw [t1 f k s (by omega), rd_wr, if_neg (by omega)], by rw [t2]; rfl⟩
    · rw [h14, row_8, h13, row_8, y3, er]
      rfl
    · rw [h14, th_8, h13, th_8, y2, h8, th_8, h7, th_8, t1 15 0 7 (by omega), th_at]
theorem pC_7 {j : Nat} {σ : Mem} (I : Inv j σ) (hj : j < 512) : wC_7 σ (Inv (j + 1)) := by
  refine chg I (c := 7) (L := [(2, 1)]) (wR := wX13_joins) (fun r h m => ?_) (fun t nB nO nP a ht F => op_7 (by omega) F) (K := fun k s => wX13_spliceAll s (fun bb s1 => wX13_thrown s1 (fun t s2 => t = k ∧ (k = 0 → rdL s2 = bb.toInt64) ∧ Inv (j + 1) s2) (fun _ _ => False)) (fun _ _ => False)) (fun k s hh => hh) (fun r h τ m hk => ?_)
  · simp only [List.mem_cons, List.mem_nil_iff, Prod.mk.injEq, or_false] at m
    rcases m with ⟨rfl, rfl⟩ <;> decide
  · simp only [List.mem_cons, List.mem_nil_iff, Prod.mk.injEq, or_false] at m
    rcases m with ⟨rfl, rfl⟩
    · exact ⟨rfl, hk⟩
