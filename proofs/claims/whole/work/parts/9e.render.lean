/-! THE SHELF RENDERED -/
def ln (p : Nat → Nat) : Nat → Nat
  | 0 => 0
  | q + 1 => ln p q + (if q = 0 then 0 else 1) + dN (p q)
def tc (p : Nat → Nat) : Nat → Nat → Nat
  | 0, _ => 0
  | q + 1, i => if i < ln p q then tc p q i else if q ≠ 0 ∧ i = ln p q then 45 else dc (p q) (dN (p q)) (i - (ln p q + (if q = 0 then 0 else 1)))
theorem ln_b (p : Nat → Nat) (q : Nat) : ln p q ≤ 6 * q := by
  induction q with
  | zero => exact Nat.le_refl 0
  | succ q ih =>
    have := (dN_pos (p q)).2
    unfold ln
    split <;> omega
theorem tc_b (p : Nat → Nat) (q i : Nat) : tc p q i < 128 := by
  induction q with
  | zero => exact show 0 < 128 by decide
  | succ q ih =>
    unfold tc
    split
    · exact ih
    · split
      · decide
      · exact dc_b _ _ _
theorem tc_low {p : Nat → Nat} {q i : Nat} (h : i < ln p q) : tc p (q + 1) i = tc p q i := if_pos h
theorem tc_bar {p : Nat → Nat} {q : Nat} (h : q ≠ 0) : tc p (q + 1) (ln p q) = 45 := by
  unfold tc
  rw [if_neg (Nat.lt_irrefl _), if_pos ⟨h, rfl⟩]
theorem tc_dig {p : Nat → Nat} {q i : Nat} (hi : i < dN (p q)) : tc p (q + 1) (ln p q + (if q = 0 then 0 else 1) + i) = dc (p q) (dN (p q)) i := by
  unfold tc
  by_cases c : q = 0
  · subst c
    rw [if_pos rfl, if_neg (by omega), if_neg (by omega)]
    congr 1
    omega
  · rw [if_neg c, if_neg (by omega), if_neg (by omega)]
    congr 1
    omega
theorem w_shelfC {n : Nat} {p : Nat → Nat} {σ : Mem} {Q : Int32 → Mem → Prop} {E : String → Mem → Prop} {X : Mem → Prop} (hn : n ≤ 12) (hp : ∀ q : Nat, q < n → p q < 100000) (h9 : rd σ 0 9 1 = nI n) (hr : ∀ q : Nat, q < n → rd σ 1 9 q = nI (p q)) (W : WB σ 1 0)
    (h : ∀ τ : Mem, FX 1 σ τ → WB τ 1 (ln p n) → (∀ i : Nat, i < ln p n → rd τ 16 1 i = nI (tc p n i)) → X τ) : wX12_renderShelf_10 Q E X (n + 1) 0 σ := by
  have key : ∀ (m q : Nat) (σ' : Mem), q + m = n → FX 1 σ σ' → WB σ' 1 (ln p q) → (∀ i : Nat, i < ln p q → rd σ' 16 1 i = nI (tc p q i)) → wX12_renderShelf_10 Q E X (m + 1) (nI q) σ' := by
    intro m
    induction m with
    | zero =>
      intro q σ' hq p1 p2 p3
      obtain rfl : q = n := by omega
      have e9 : rd σ' 0 9 1 = nI q := (p1.1 0 9 1 (by omega)).trans h9
      exact ⟨fun _ => h σ' p1 p2 p3, fun r => absurd (show rd σ' 0 9 1 ≤ nI q from e9 ▸ nI_le (Nat.le_refl q) (by omega)) r⟩
    | succ m ih =>
      intro q σ' hq p1 p2 p3
      have e9 : rd σ' 0 9 1 = nI n := (p1.1 0 9 1 (by omega)).trans h9
      have er : rd σ' 1 9 q = nI (p q) := (p1.1 1 9 q (by omega)).trans (hr q (by omega))
      have lb := ln_b p q
      have db := dN_pos (p q)
      have el : ln p (q + 1) = ln p q + (if q = 0 then 0 else 1) + dN (p q) := rfl
      refine ⟨fun r => absurd (show nI n ≤ nI q from e9 ▸ r) (nI_ge (by omega) (by omega)), fun _ => ⟨fun c => ?_, fun c => ?_⟩⟩
      · have q0 : q = 0 := by
          by_cases c0 : q = 0
          · exact c0
          · exact absurd c (nI_nle (by omega) (by omega))
        refine w_get (k := 9) (n := n) (i := q) e9 (by omega) hn rfl ?_
        rw [er]
        rw [if_pos q0, show ln p q + 0 = ln p q from rfl] at el
        refine w_appI p2 rfl (hp q (by omega)) (by omega) (fun τ t1 t2 t3 t4 v hv => ?_)
        rw [nI_1] at hv
        rw [hv]
        refine ih (q + 1) τ (by omega) (p1.tr t1) (by rw [el]; exact t2) (fun i hi => ?_)
        by_cases c2 : i < ln p q
        · rw [t3 i c2, p3 i c2, tc_low c2]
        · obtain ⟨j, rfl⟩ : ∃ j, i = ln p q + j := ⟨i - ln p q, by omega⟩
          have hd := tc_dig (p := p) (q := q) (i := j) (by omega)
          rw [if_pos q0, show ln p q + 0 = ln p q from rfl] at hd
          rw [t4 j (by omega), hd]
      · have q0 : q ≠ 0 := by
          intro c0
          subst c0
          exact c (by decide)
        rw [if_neg q0] at el
        refine w_appC (c := 45) p2 rfl (by decide) (by omega) (fun τ t1 t2 t3 t4 => ?_)
        refine w_get (k := 9) (n := n) (i := q) ((t1.1 0 9 1 (by omega)).trans e9) (by omega) hn rfl ?_
        rw [t1.1 1 9 q (by omega), er]
        refine w_appI t2 rfl (hp q (by omega)) (by omega) (fun y y1 y2 y3 y4 v hv => ?_)
        rw [nI_1] at hv
        rw [hv]
        refine ih (q + 1) y (by omega) (p1.tr (t1.tr y1)) (by rw [el]; exact y2) (fun i hi => ?_)
        by_cases c2 : i < ln p q
        · rw [y3 i (by omega), t3 i c2, p3 i c2, tc_low c2]
        · by_cases c3 : i = ln p q
          · rw [c3, y3 _ (by omega), t4, tc_bar q0]
          · obtain ⟨j, rfl⟩ : ∃ j, i = ln p q + 1 + j := ⟨i - ln p q - 1, by omega⟩
            have hd := tc_dig (p := p) (q := q) (i := j) (by omega)
            rw [if_neg q0] at hd
            rw [y4 j (by omega), hd]
  exact key n 0 σ (by omega) (FX.rf 1 σ) W (fun i hi => absurd hi (Nat.not_lt_zero i))
theorem w_shelfR {n : Nat} {p : Nat → Nat} {σ : Mem} {Q : Int32 → Mem → Prop} {E : String → Mem → Prop} {X : Mem → Prop} (hn : n ≤ 12) (hp : ∀ q : Nat, q < n → p q < 100000) (h13 : rd σ 10 8 13 = nI n) (hr : ∀ q : Nat, q < n → rd σ 10 8 (78 + q) = nI (p q)) (h14 : rd σ 15 0 14 = nI 0)
    (h : ∀ τ : Mem, FL σ τ → rd τ 15 0 14 = nI (ln p n) → (∀ i : Nat, i < ln p n → rd τ 10 14 i = nI (tc p n i)) → X τ) : ∃ m : Nat, wX13_renderShelf_12 Q E X m 0 σ := by
  have key : ∀ (m q : Nat) (σ' : Mem), q + m = n → FL σ σ' → rd σ' 15 0 14 = nI (ln p q) → (∀ i : Nat, i < ln p q → rd σ' 10 14 i = nI (tc p q i)) → wX13_renderShelf_12 Q E X (m + 1) (nI q) σ' := by
    intro m
    induction m with
    | zero =>
      intro q σ' hq p1 p2 p3
      obtain rfl : q = n := by omega
      have e9 : rd σ' 10 8 13 = nI q := (p1.1 10 8 13 (by omega) (by omega)).trans h13
      exact ⟨fun _ => h σ' p1 p2 p3, fun r => absurd (show rd σ' 10 8 13 ≤ nI q from e9 ▸ nI_le (Nat.le_refl q) (by omega)) r⟩
    | succ m ih =>
      intro q σ' hq p1 p2 p3
      have e9 : rd σ' 10 8 13 = nI n := (p1.1 10 8 13 (by omega) (by omega)).trans h13
      have er : rd σ' 10 8 (78 + q) = nI (p q) := (p1.1 10 8 _ (by omega) (by omega)).trans (hr q (by omega))
      have lb := ln_b p q
      have db := dN_pos (p q)
      have el : ln p (q + 1) = ln p q + (if q = 0 then 0 else 1) + dN (p q) := rfl
      have px := piece_ix (show q < 12 by omega)
      refine ⟨fun r => absurd (show nI n ≤ nI q from e9 ▸ r) (nI_ge (by omega) (by omega)), fun _ => ⟨fun c => ⟨px.1, ?_⟩, fun c => ?_⟩⟩
      · have q0 : q = 0 := by
          by_cases c0 : q = 0
          · exact c0
          · exact absurd c (nI_nle (by omega) (by omega))
        rw [px.2, er]
        rw [if_pos q0, show ln p q + 0 = ln p q from rfl] at el
        refine w_number 11 (p q) (ln p q) σ' _ (hp q (by omega)) (by omega) p2 (by omega) (fun τ t1 t2 t3 t4 v hv => ?_)
        rw [nI_1] at hv
        rw [hv]
        refine ih (q + 1) τ (by omega) (p1.tr t1) (by rw [el]; exact t2) (fun i hi => ?_)
        by_cases c2 : i < ln p q
        · rw [t3 i c2, p3 i c2, tc_low c2]
        · obtain ⟨j, rfl⟩ : ∃ j, i = ln p q + j := ⟨i - ln p q, by omega⟩
          have hd := tc_dig (p := p) (q := q) (i := j) (by omega)
          rw [if_pos q0, show ln p q + 0 = ln p q from rfl] at hd
          rw [t4 j (by omega), hd]
      · have q0 : q ≠ 0 := by
          intro c0
          subst c0
          exact c (by decide)
        rw [if_neg q0] at el
        refine w_putsC p2 (by omega) (fun τ t1 t2 t3 t4 => ⟨px.1, ?_⟩)
        rw [px.2, t1.1 10 8 _ (by omega) (by omega), er]
        refine w_number 11 (p q) (ln p q + 1) τ _ (hp q (by omega)) (by omega) t2 (by omega) (fun y y1 y2 y3 y4 v hv => ?_)
        rw [nI_1] at hv
        rw [hv]
        refine ih (q + 1) y (by omega) (p1.tr (t1.tr y1)) (by rw [el]; exact y2) (fun i hi => ?_)
        by_cases c2 : i < ln p q
        · rw [y3 i (by omega), t3 i c2, p3 i c2, tc_low c2]
        · by_cases c3 : i = ln p q
          · rw [c3, y3 _ (by omega), t4, tc_bar q0]
            rfl
          · obtain ⟨j, rfl⟩ : ∃ j, i = ln p q + 1 + j := ⟨i - ln p q - 1, by omega⟩
            have hd := tc_dig (p := p) (q := q) (i := j) (by omega)
            rw [if_neg q0] at hd
            rw [y4 j (by omega), hd]
  exact ⟨n + 1, key n 0 σ (by omega) (FL.rf σ) h14 (fun i hi => absurd hi (Nat.not_lt_zero i))⟩
/-- the invariant behind a new output text -/
theorem inv_line {j : Nat} {σ τ y : Mem} (I : Inv j σ) {N : Nat} {g : Nat → Nat} (hN : N ≤ 90) (h1 : FX 1 σ τ) (hW : WB τ 1 N) (hT : ∀ i : Nat, i < N → rd τ 16 1 i = nI (g i)) (hg : ∀ i : Nat, i < N → g i < 128)
    (h2 : ∀ f k s : Nat, ¬ (f = 10 ∧ k = 14) → ¬ (f = 15 ∧ k = 0 ∧ (s = 7 ∨ s = 14)) → rd y f k s = rd τ f k s) (h3 : y.2.2.1 = τ.2.2.1) (h14 : rd y 15 0 14 = nI N) (hL : ∀ i : Nat, i < N → rd y 10 14 i = nI (g i)) : Inv (j + 1) y := by
  obtain ⟨t, nT, nL, nC, nx, hjt, J⟩ := I
  have J0 := J
  obtain ⟨hNN, hst, h3', h4, h8, h9, h10, h11, hZ⟩ := J
  refine ⟨t, nT, N, nC, nx, by omega, inv_txt J0 hNN.1 hN (fun f k s n1 n2 n3 => ?_) ?_ h14 ?_ ?_⟩
  · rw [h2 f k s (by omega) (by omega)]
    exact h1.1 f k s (by omega)
  · refine Txt.mk ⟨(h2 13 1 1 (by omega) (by omega)).trans hW.1, (h2 13 1 3 (by omega) (by omega)).trans hW.2.1, by rw [h3]; exact hW.2.2.1, by rw [h3]; exact hW.2.2.2.1, fun i hi => ?_⟩ (fun i hi => ?_)
    · rw [h2 16 1 i (by omega) (by omega)]
      rw [h3] at hi
      exact hW.2.2.2.2 i hi
    · rw [h2 16 1 i (by omega) (by omega), hT i hi, hL i hi]
      exact ⟨rfl, g i, hg i hi, rfl⟩
  · exact h11.1.on2 (fun s => (h2 13 0 s (by omega) (by omega)).trans (h1.1 13 0 s (by omega))) (fun s => (h2 16 0 s (by omega) (by omega)).trans (h1.1 16 0 s (by omega))) (by rw [h3]; exact h1.2.1 0 (by decide)) (fun i => (h2 10 15 i (by omega) (by omega)).trans (h1.1 10 15 i (by omega)))
  · rw [h2 15 0 17 (by omega) (by omega), h1.1 15 0 17 (by omega)]
    exact h11.2
theorem pC_48 {j : Nat} {σ : Mem} (I : Inv j σ) (hj : j < 512) : wC_48 σ (Inv (j + 1)) := by
  have I0 := I
  obtain ⟨t, nB, nO, nP, htj, F, S⟩ := I.st
  have hP := F.1.2.2.1
  have e13 := F.1.2.2.2.2.2
  obtain ⟨p, p1, p2, p3⟩ := pie_p F (by omega)
  have pb : ∀ q : Nat, q < nP → p q < 100000 := fun q hq => by have := sumN_ge (p := p) hq; omega
  obtain ⟨t', nT, nL, nC, nx, hjt, J⟩ := I0
  have W := J.2.2.2.2.2.2.1.1.wb
  have lb := ln_b p nP
  unfold wC_48 wX12_renderShelf wX13_renderShelf
  refine w_setLen0 W (fun y y1 y2 _ => ⟨nP + 1, by omega, ?_⟩)
  refine w_shelfC (p := p) hP pb ((y1.1 0 9 1 (by omega)).trans S.2.2.2.1) (fun q hq => ((y1.1 1 9 q (by omega)).trans (S.2.2.2.2.2.2 q hq)).trans (p2 q hq)) y2 (fun τ t1 t2 t3 => ?_)
  refine w_len t2 ⟨rfl, ?_⟩
  intro s1 h1 s2 h2
  have F1 := y1.tr t1
  have fr : ∀ f k s : Nat, ¬ (f = 15 ∧ k = 0 ∧ (s = 7 ∨ s = 14)) → rd s2 f k s = rd τ f k s := fun f k s n => by rw [h2, rd_wr, if_neg (by omega), h1, rd_wr, if_neg (by omega)]
  refine w_shelfR (n := nP) (p := p) hP pb ?_ (fun q hq => ?_) (by rw [h2, rd_wr, if_pos ⟨rfl, rfl, rfl⟩]; rfl) (fun u u1 u2 u3 => ⟨u2.symm, ?_⟩)
  · rw [fr 10 8 13 (by omega), F1.1 10 8 13 (by omega)]; exact e13
  · rw [fr 10 8 _ (by omega), F1.1 10 8 _ (by omega)]; exact p2 q hq
  · exact inv_line I (N := ln p nP) (g := tc p nP) (by omega) F1 t2 t3 (fun i _ => tc_b p nP i) (fun f k s n1 n2 => (u1.1 f k s n1 (by omega)).trans (fr f k s n2)) (by rw [u1.2, h2, h1]; rfl) u2 u3
