/-! A CHANGE OF THE CLASS -/
theorem op_5 {t nB nO nP : Nat} {a : Nat → Int32} (x1 : Int32) (ht : t ≤ 512) (F : Fits t nB nO nP a) (G : Srt t nB nO a) : Ch 5 x1 0 0 [4, 3, 2] t nB nO nP a := by
  have hB := F.1.1
  have hO := F.1.2.1
  have hP := F.1.2.2.1
  have e12 : a 12 = nI nO := F.1.2.2.2.2.1
  have e13 : a 13 = nI nP := F.1.2.2.2.2.2
  obtain ⟨r, hr2, hr⟩ := F.2.2.1
  rcases fst_or (fun q => a (54 + 3 * q)) x1 nO with ⟨p, hp, e1, e2⟩ | hno
  rotate_left
  · refine Or.inl ⟨4, by simp, fun σ Q E S _ h => ?_⟩
    · refine ⟨fun q => absurd q (by decide), fun q => absurd q (by decide), fun q => absurd q (by decide), fun q => absurd q (by decide), fun q => absurd q (by decide), fun _ => w_find_no (k := 5) (n := nO) (f := fun q => a (54 + 3 * q)) (S.rO 0 (by decide)).1 hO (S.rO 0 (by decide)).2 hno ?_, fun q => absurd q (by decide), fun q => absurd q (by decide), fun q => absurd q (by decide)⟩
      exact ⟨fun _ => ⟨fun q => absurd rfl q, fun _ => h σ (FrS.rf σ)⟩, fun q => absurd (by decide) q⟩
  obtain ⟨-, ⟨l, hl1, hl2, hl⟩, w, hw1, hw2, hw⟩ := F.2.2.2.2.2.2.1 p hp
  have hk40 := pcs_le (w := w) hl2
  have ref : ∀ (σ : Mem) (Q : Nat → Mem → Prop) (E : String → Mem → Prop), Same σ 0 nB nO nP a → (¬ l ≤ r → Q 3 σ) → (l ≤ r → ¬ nP + pcs l w ≤ 12 → Q 2 σ) → (l ≤ r → nP + pcs l w ≤ 12 → Q 0 σ) → wX12_refusalOf 5 x1 0 0 σ Q E := by
    intro σ Q E S h3 h2 h0
    refine ⟨fun q => absurd q (by decide), fun q => absurd q (by decide), fun q => absurd q (by decide), fun q => absurd q (by decide), fun q => absurd q (by decide), fun _ => w_find_at (k := 5) (n := nO) (f := fun q => a (54 + 3 * q)) (S.rO 0 (by decide)).1 hO (S.rO 0 (by decide)).2 hp e1 e2 ?_, fun q => absurd q (by decide), fun q => absurd q (by decide), fun q => absurd q (by decide)⟩
    exact w_refSpin S hO hP hp rfl hl hw hr hl2 hw2 hr2 h3 h2 h0
  have hl' : a (54 + 3 * p + 1) = nI l := by rw [← hl]; congr 1; omega
  have hw' : a (54 + 3 * p + 2) = nI w := by rw [← hw]; congr 1; omega
  have hp8 : p < 8 := by omega
  by_cases c1 : l ≤ r
  rotate_left
  · exact Or.inl ⟨3, by simp, fun σ Q E S _ h => ref σ Q E S (fun _ => h σ (FrS.rf σ)) (fun c _ => absurd c c1) (fun c _ => absurd c c1)⟩
  by_cases c2 : nP + pcs l w ≤ 12
  rotate_left
  · exact Or.inl ⟨2, by simp, fun σ Q E S _ h => ref σ Q E S (fun c => absurd c1 c) (fun _ _ => h σ (FrS.rf σ)) (fun _ c => absurd c c2)⟩
  obtain ⟨n, rfl⟩ : ∃ n, nO = n + 1 := ⟨nO - 1, by omega⟩
  have F2 := F.spin hl2 hr hr2 c1 c2
  have o : ∀ s : Nat, s ≠ 12 → (s < 54 ∨ 78 ≤ s) → r_spin a l w nP p n s = r_sp2 a l w nP (pcs l w) s := fun s h h2 => by rw [spin_canc]; exact canc_o (by omega) h h2
  have o2 : ∀ s : Nat, s < 78 → s ≠ 13 → s ≠ 1 → s ≠ 2 → s ≠ 6 → r_sp2 a l w nP (pcs l w) s = a s := fun s h h13 h1 h2 h6 => sp2_o h h13 h1 h2 h6
  refine Or.inr ⟨nB, n, nP + pcs l w, r_spin a l w nP p n, nI (pcs l w), ⟨by rw [spin_canc]; exact F2.canc hp, ?_, ?_⟩, fun σ Q E S _ h => ref σ Q E S (fun c => absurd c1 c) (fun _ c => absurd c2 c) (fun _ _ => h σ (FrS.rf σ)), fun σ Q E S _ h => ?_⟩
  · have oo : ∀ s : Nat, s < 54 → s ≠ 12 → s ≠ 13 → s ≠ 1 → s ≠ 2 → s ≠ 6 → r_spin a l w nP p n s = a s := fun s h h12 h13 h1 h2 h6 => (o s h12 (Or.inl h)).trans (o2 s (by omega) h13 h1 h2 h6)
    refine ⟨by rw [oo 0 (by omega) (by omega) (by omega) (by omega) (by omega) (by omega)]; exact G.1.up, G.2.1.cg (Nat.le_succ t) (fun q hq => oo _ (by omega) (by omega) (by omega) (by omega) (by omega) (by omega)) (oo 9 (by omega) (by omega) (by omega) (by omega) (by omega) (by omega)), G.2.2.del (Nat.le_succ t) hp (fun q hq => ?_) (oo 10 (by omega) (by omega) (by omega) (by omega) (by omega) (by omega))⟩
    show r_spin a l w nP p n (54 + 3 * q) = a (54 + 3 * rm p q)
    rw [spin_canc]
    have hrq := rm_lt hp hq
    exact (canc_q (d := 0) hp hO hq (by decide)).trans (o2 _ (by omega) (by omega) (by omega) (by omega) (by omega))
  · exact ⟨pcs l w, by omega, rfl⟩
  · obtain ⟨z6, z3, z5, z4, z7, z8, z9, z10, z11, y2, y3⟩ := S.1
    refine ⟨fun q => absurd q (by decide), fun q => absurd q (by decide), fun q => absurd q (by decide), fun q => absurd q (by decide), fun q => absurd q (by decide), fun _ => w_find_at (k := 5) (n := n + 1) (f := fun q => a (54 + 3 * q)) (S.rO 0 (by decide)).1 hO (S.rO 0 (by decide)).2 hp e1 e2 ?_, fun q => absurd q (by decide), fun q => absurd q (by decide), fun q => absurd q (by decide)⟩
    have k6 : rd σ 1 6 p = nI l := ((S.rO 1 (by decide)).2 p hp).trans hl
    have k7 : rd σ 1 7 p = nI w := ((S.rO 2 (by decide)).2 p hp).trans hw
    refine w_get (k := 6) (n := n + 1) (S.rO 1 (by decide)).1 hp hO rfl ?_
    rw [k6]
    refine w_get (k := 7) (n := n + 1) (S.rO 2 (by decide)).1 hp hO rfl ?_
    rw [k7, show (3 : Int32) = nI 3 from rfl, nI_add]
    refine w_piecesAt (k := 0) (n := n + 1) (l := l) (w := w) (S.rO 1 (by decide)).1 (S.rO 2 (by decide)).1 hp hO hO rfl k6 k7 hl2 hw2 ?_
    refine w_spinLoop (nP := nP) hl2 hw2 rfl c2 S.2.2.2.1 (fun τ u1 u2 u3 u4 u5 => ?_)
    intro s14 h14 s15 h15
    have g15 : ∀ f k s : Nat, ¬ (f ≤ 1 ∧ k = 9) → ¬ (f = 4 ∧ k = 0 ∧ (s = 3 ∨ s = 9)) → rd s15 f k s = rd σ f k s := fun f k s m m2 => by rw [h15, rd_wr, if_neg (by omega), h14, rd_wr, if_neg (by omega), u1 f k s m]
    refine w_get (k := 8) (n := n + 1) ((g15 0 8 1 (by omega) (by omega)).trans (S.rO 3 (by decide)).1) hp hO rfl ?_
    have k8 : rd s15 1 8 p = nI (l * w) := by
      rw [g15 1 8 p (by omega) (by omega), ← pk_mul, ← hl, ← hw]
      exact (S.rO 3 (by decide)).2 p hp
    rw [k8]
    intro s18 h18
    refine w_close (n := n) rfl hp hO (fun i hi => by rw [h18, rd_wr, if_neg (by omega), g15 0 _ 1 (by omega) (by omega)]; exact (S.rO i hi).1) (fun y y1 y2' y3' => ?_)
    have gt : ∀ f k s : Nat, ¬ (f ≤ 1 ∧ 5 ≤ k ∧ k < 10) → ¬ (f = 4 ∧ k = 0 ∧ (s = 3 ∨ s = 9 ∨ s = 5)) → rd y f k s = rd σ f k s := fun f k s m m2 => by rw [y1 f k s (by omega), h18, rd_wr, if_neg (by omega), g15 f k s (by omega) (by omega)]
    have gp : ∀ f s : Nat, f ≤ 1 → rd y f 9 s = rd τ f 9 s := fun f s hf => by rw [y1 f 9 s (by omega), h18, rd_wr, if_neg (by omega), h15, rd_wr, if_neg (by omega), h14, rd_wr, if_neg (by omega)]
    refine h y ⟨fun f k s m m2 => gt f k s (by unfold SIn at m; omega) (by unfold SIn at m; omega), by rw [y2', h18, h15, h14]; show τ.2 = _; exact u2⟩ (Same.mk0 ⟨?_, ?_, ?_, ?_, ?_, ?_, ?_, ?_, ?_, ?_, ?_⟩ (fun j hj => ⟨?_, fun q hq => ?_⟩) (fun j hj => ⟨(y3' j hj).1, fun q hq => ?_⟩) ⟨?_, fun q hq => ?_⟩)
    · rw [gt 4 0 6 (by omega) (by omega), o 0 (by omega) (by omega), o2 0 (by omega) (by omega) (by omega) (by omega) (by omega)]; exact z6
    · rw [y1 4 0 3 (by omega), h18, rd_wr, if_neg (by omega), h15, rd_wr, if_neg (by omega), h14, rd_wr, if_pos ⟨rfl, rfl, rfl⟩, u1 4 0 3 (by omega), z3, o 1 (by omega) (by omega), sp2_1]
    · rw [y1 4 0 5 (by omega), h18, rd_wr, if_pos ⟨rfl, rfl, rfl⟩, g15 4 0 5 (by omega) (by omega), z5, o 2 (by omega) (by omega), sp2_2]
    · rw [gt 4 0 4 (by omega) (by omega), o 3 (by omega) (by omega), o2 3 (by omega) (by omega) (by omega) (by omega) (by omega)]; exact z4
    · rw [gt 4 0 7 (by omega) (by omega), o 4 (by omega) (by omega), o2 4 (by omega) (by omega) (by omega) (by omega) (by omega)]; exact z7
    · rw [gt 4 0 8 (by omega) (by omega), o 5 (by omega) (by omega), o2 5 (by omega) (by omega) (by omega) (by omega) (by omega)]; exact z8
    · rw [y1 4 0 9 (by omega), h18, rd_wr, if_neg (by omega), h15, rd_wr, if_pos ⟨rfl, rfl, rfl⟩, h14, rd_wr, if_neg (by omega), u1 4 0 9 (by omega), z9, o 6 (by omega) (by omega), sp2_6]
    · rw [gt 4 0 10 (by omega) (by omega), o 7 (by omega) (by omega), o2 7 (by omega) (by omega) (by omega) (by omega) (by omega)]; exact z10
    · rw [gt 4 0 11 (by omega) (by omega), o 8 (by omega) (by omega), o2 8 (by omega) (by omega) (by omega) (by omega) (by omega)]; exact z11
    · rw [gt 2 0 5 (by omega) (by omega), o 9 (by omega) (by omega), o2 9 (by omega) (by omega) (by omega) (by omega) (by omega)]; exact y2
    · rw [gt 3 0 4 (by omega) (by omega), o 10 (by omega) (by omega), o2 10 (by omega) (by omega) (by omega) (by omega) (by omega)]; exact y3
    · exact (gt 0 _ 1 (by omega) (by omega)).trans (S.rB j hj).1
    · exact (gt 1 _ q (by omega) (by omega)).trans (((S.rB j hj).2 q hq).trans (gB_cg (fun s _ _ => ((o s (by omega) (by omega)).trans (o2 s (by omega) (by omega) (by omega) (by omega) (by omega))).symm) (by omega)))
    · rw [(y3' j hj).2 q hq, h18, rd_wr, if_neg (by omega), g15 1 _ _ (by omega) (by omega), (S.rO j hj).2 _ (rm_lt hp hq), spin_canc, gO_canc hp hO hq]
      exact gO_cg (fun s _ _ => (o2 s (by omega) (by omega) (by omega) (by omega) (by omega)).symm) (by have := rm_lt hp hq; omega)
    · rw [gp 0 1 (by omega)]
      exact u3
    · rw [gp 1 q (by omega), o (78 + q) (by omega) (by omega)]
      by_cases c : q < nP
      · rw [u4 q c, sp2_p c]
        exact S.2.2.2.2.2.2 q c
      · obtain ⟨u, rfl⟩ : ∃ u, q = nP + u := ⟨q - nP, by omega⟩
        rw [u5 u (by omega), sp2_n (by omega)]
