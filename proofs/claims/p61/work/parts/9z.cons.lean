/-! COSTS, BLENDS, KINDS, CONSISTENCY -/
section CO
variable {t nB nO nP : Nat} {a : Nat → Int32} {σ : Mem} {w s z l tw p : Nat → Nat}
theorem bc_of (F : Fits t nB nO nP a) (S : Same σ 0 nB nO nP a) (Z : Zer σ) (hb : ∀ q : Nat, q < nB → a (15 + 4 * q) = nI (w q) ∧ a (16 + 4 * q) = nI (s q) ∧ a (17 + 4 * q) = nI (z q) ∧ (1 ≤ w q ∧ w q ≤ 50) ∧ (10 ≤ s q ∧ s q ≤ 60) ∧ 1 ≤ z q ∧ z q ≤ 20) : BCx σ nB w s z := by
  refine ⟨F.1.1, ⟨S.2.1 0 (by decide), S.2.1 1 (by decide), S.2.1 2 (by decide), S.2.1 4 (by decide)⟩, fun q hq => ?_, fun q hq => (hb q hq).2.2.2, Z.1 0 (by decide), Z.1 1 (by decide), Z.1 2 (by decide)⟩
  obtain ⟨-, k1, k2, -, k3⟩ := S.2.2.2.2.1 q hq
  obtain ⟨g1, g2, g3, -⟩ := hb q hq
  refine ⟨k1.trans g1, k2.trans g2, k3.trans ?_⟩
  rw [g1, g3, pk_mul]
/-- what both ways to a blend's value answer in the law -/
def blV (w s z : Nat → Nat) (n nd sp : Nat) : Int32 := if bF w s z n nd sp (2 ^ n - 1) = 0 then -900002 else bV w s z n nd sp
theorem bV_at {n nd sp : Nat} (B : BCx σ n w s z) : (bV w s z n nd sp = -1 → bF w s z n nd sp (2 ^ n - 1) = 0) ∧ (bF w s z n nd sp (2 ^ n - 1) = 0 → bV w s z n nd sp = -1) := by
  have bv := (bc_b B (bF w s z n nd sp (2 ^ n - 1))).2.2
  unfold bV
  by_cases c : bF w s z n nd sp (2 ^ n - 1) = 0
  · rw [if_pos c]
    exact ⟨fun _ => c, fun _ => rfl⟩
  · rw [if_neg c]
    exact ⟨fun q => absurd q (nI_nm1 (by omega)), fun q => absurd q c⟩
theorem q_found {n nd sp : Nat} {τ : Mem} {Q : Int32 → Mem → Prop} (B : BCx σ n w s z) (h : Q (blV w s z n nd sp) τ) : wX12_blendValueFound (bV w s z n nd sp) τ (fun r y => Q r y) (fun E y => (E = "java/lang/IllegalArgumentException" ∧ Q (-900001) y) ∨ (E = "java/util/NoSuchElementException" ∧ Q (-900002) y)) := by
  obtain ⟨h1, h2⟩ := bV_at (nd := nd) (sp := sp) B
  unfold blV at h
  refine ⟨fun q => ?_, fun q => Or.inr ⟨rfl, ?_⟩⟩
  · rw [if_neg (fun c => q (h2 c))] at h
    exact h
  · rw [if_pos (h1 q)] at h
    exact h
theorem q_bv1 {nd sp : Nat} {x1 x2 : Int32} {Q : Int32 → Mem → Prop} {E : String → Mem → Prop} (h1 : 1 ≤ nd ∧ nd ≤ 500 ∧ x1 = nI nd) (h2 : 10 ≤ sp ∧ sp ≤ 60 ∧ x2 = nI sp) (B : BCx σ nB w s z) (h : ∀ τ : Mem, FrS σ τ → Q (blV w s z nB nd sp) τ) : wL_blendValue x1 x2 σ Q E := by
  unfold wL_blendValue wX12_blendValue wX12_testBlend
  exact w_can1 h1 h2 ⟨fun _ => w_valueSets h1.2.2 h2.2.2 B h1.2.1 h2.2.1 (fun τ t1 => q_found B (h τ t1.s)), fun q => absurd q (by decide)⟩
theorem q_bv2 {nd sp : Nat} {x1 x2 : Int32} {Q : Int32 → Mem → Prop} {E : String → Mem → Prop} (h1 : 1 ≤ nd ∧ nd ≤ 500 ∧ x1 = nI nd) (h2 : 10 ≤ sp ∧ sp ≤ 60 ∧ x2 = nI sp) (B : BCx σ nB w s z) (h : ∀ τ : Mem, FrS σ τ → Q (blV w s z nB nd sp) τ) : wL_blendValueBySearch x1 x2 σ Q E := by
  unfold wL_blendValueBySearch wX12_blendValueBySearch wX12_testBlend
  exact w_can1 h1 h2 ⟨fun _ => w_valueSearch h1.2.2 h2.2.2 B h1.1 h1.2.1 h2.2.1 (fun τ t1 => q_found B (h τ ⟨fun f k s q => t1.1 f k s (by unfold scc at q; omega), t1.2⟩)), fun q => absurd q (by decide)⟩
theorem q_cost1 {Q : Int32 → Mem → Prop} {E : String → Mem → Prop} (F : Fits t nB nO nP a) (S : Same σ 0 nB nO nP a) (p1 : ∀ q : Nat, q < nP → 1 ≤ p q) (p2 : ∀ q : Nat, q < nP → a (78 + q) = nI (p q)) (p3 : sumN p nP ≤ 20480) (h : ∀ τ : Mem, FrS σ τ → Q (nI (cC p (nP - 1) 0)) τ) : wX12_spliceCost σ Q E :=
  w_table (p := p) F.1.2.2.1 p3 p1 S.2.2.2.1 (fun q hq => (S.2.2.2.2.2.2 q hq).trans (p2 q hq)) (fun τ t1 t2 => h τ ⟨fun f k i q => t1 f k i (by unfold scc at q; omega), t2⟩)
theorem q_cost2 {Q : Int32 → Mem → Prop} {E : String → Mem → Prop} (F : Fits t nB nO nP a) (S : Same σ 0 nB nO nP a) (p1 : ∀ q : Nat, q < nP → 1 ≤ p q) (p2 : ∀ q : Nat, q < nP → a (78 + q) = nI (p q)) (p3 : sumN p nP ≤ 20480) (h : ∀ τ : Mem, FrS σ τ → Q (nI (cC p (nP - 1) 0)) τ) : wX12_spliceCostByMemory σ Q E :=
  w_memory (p := p) F.1.2.2.1 p3 p1 S.2.2.2.1 (fun q hq => (S.2.2.2.2.2.2 q hq).trans (p2 q hq)) (fun τ t1 t2 => h τ ⟨fun f k i q => t1 f k i (by unfold scc at q; omega), t2⟩)
theorem cost0 {n : Nat} (h : n ≤ 1) : cC p (n - 1) 0 = 0 := by
  rw [show n - 1 = 0 by omega]
  rfl
theorem cntB_le (P : Nat → Bool) : ∀ n : Nat, cntB P n ≤ n
  | 0 => Nat.le_refl 0
  | n + 1 => by
    have g := cntB_le P n
    unfold cntB
    split <;> omega
theorem q_kinds {Q : Int32 → Mem → Prop} {E : String → Mem → Prop} (F : Fits t nB nO nP a) (S : Same σ 0 nB nO nP a) (h : ∀ c : Nat, c ≤ nO → Q (nI c) σ) : wX12_kinds σ Q E :=
  w_countKinds (n := nO) (f := fun q => a (55 + 3 * q)) (g := fun q => a (56 + 3 * q)) (S.2.2.1 0 (by decide)) (S.2.2.1 1 (by decide)) (S.2.2.1 2 (by decide)) F.1.2.1 (fun q hq => (S.2.2.2.2.2.1 q hq).2.1) (fun q hq => (S.2.2.2.2.2.1 q hq).2.2.1) (h _ (cntB_le _ nO))
theorem q_sum {Q : Int32 → Mem → Prop} {E : String → Mem → Prop} (F : Fits t nB nO nP a) (S : Same σ 0 nB nO nP a) (p2 : ∀ q : Nat, q < nP → a (78 + q) = nI (p q)) (h : Q (nI (sumN p nP)) σ) : wX12_shelfLength σ Q E :=
  w_sum (k := 9) (p := p) S.2.2.2.1 F.1.2.2.1 (fun q hq => (S.2.2.2.2.2.2 q hq).trans (p2 q hq)) h
theorem q_acc {Q : Int32 → Mem → Prop} {E : String → Mem → Prop} (S : Same σ 0 nB nO nP a) (hsum : a 6 - a 8 - a 7 = nI (sumN p nP)) (h : Q (nI (sumN p nP)) σ) : wX12_shelfLengthByAccounts σ Q E := by
  obtain ⟨z6, z3, z5, z4, z7, z8, z9, z10, z11, y2, y3⟩ := S.1
  show Q (rd σ 4 0 9 - rd σ 4 0 11 - rd σ 4 0 10) σ
  rw [z9, z11, z10, hsum]
  exact h
theorem q_coins {Q : Int32 → Mem → Prop} {E : String → Mem → Prop} (F : Fits t nB nO nP a) (S : Same σ 0 nB nO nP a) (h : Q (a 0) σ) : wX12_coinsByAccounts σ Q E := by
  obtain ⟨z6, z3, z5, z4, z7, z8, z9, z10, z11, y2, y3⟩ := S.1
  show Q (1000 - rd σ 4 0 7 + rd σ 4 0 8) σ
  rw [z7, z8, ← F.2.2.2.2.2.2.2.2]
  exact h
/-- a mill that is sound says so -/
theorem q_cons {m : Nat} {Q : Int32 → Mem → Prop} {E : String → Mem → Prop} (F : Fits t nB nO nP a) (S : Same σ 0 nB nO nP a) (Z : Zer σ) (hb : ∀ q : Nat, q < nB → a (15 + 4 * q) = nI (w q) ∧ a (16 + 4 * q) = nI (s q) ∧ a (17 + 4 * q) = nI (z q) ∧ (1 ≤ w q ∧ w q ≤ 50) ∧ (10 ≤ s q ∧ s q ≤ 60) ∧ 1 ≤ z q ∧ z q ≤ 20)
    (hlw : ∀ q : Nat, q < nO → a (55 + 3 * q) = nI (l q) ∧ a (56 + 3 * q) = nI (tw q) ∧ (1 ≤ l q ∧ l q ≤ 40) ∧ 1 ≤ tw q ∧ tw q ≤ 9) (hm : 1 ≤ m ∧ m ≤ 3) (em : a 3 = nI m) (p1 : ∀ q : Nat, q < nP → 1 ≤ p q) (p2 : ∀ q : Nat, q < nP → a (78 + q) = nI (p q)) (p3 : sumN p nP ≤ 20480) (hsum : a 6 - a 8 - a 7 = nI (sumN p nP)) (h : ∀ τ : Mem, FrS σ τ → Q 1 τ) : wX12_isConsistent σ Q E := by
  have B := bc_of F S Z hb
  unfold wX12_isConsistent
  refine w_agree (nd := 1) (sp := 10) rfl rfl B (by decide) (by decide) (by decide) (fun s2 f2 => ⟨fun q => absurd q (by decide), fun _ => ?_⟩)
  refine w_agree (nd := 20) (sp := 30) rfl rfl (B.onS f2) (by decide) (by decide) (by decide) (fun s4 f4 => ⟨fun q => absurd q (by decide), fun _ => ?_⟩)
  refine w_agree (nd := 60) (sp := 45) rfl rfl ((B.onS f2).onS f4) (by decide) (by decide) (by decide) (fun s6 f6 => ⟨fun q => absurd q (by decide), fun _ => ?_⟩)
  have g6 := (f2.tr f4).tr f6
  have S6 : Same s6 0 nB nO nP a := g6.same (by decide) S
  refine q_times F S6 (g6.zer Z) hlw hm em (S6.1.2.2.2.1.trans em) (fun c s10 u1 _ _ _ _ => ⟨fun q => absurd rfl q, fun _ => ?_⟩)
  have g10 := g6.tr u1
  have S10 : Same s10 0 nB nO nP a := g10.same (by decide) S
  refine q_cost1 F S10 p1 p2 p3 (fun s12 v1 => q_cost2 F (v1.same (by decide) S10) p1 p2 p3 (fun s14 v2 => ⟨fun q => absurd rfl q, fun _ => ?_⟩))
  have g14 := (g10.tr v1).tr v2
  have S14 : Same s14 0 nB nO nP a := g14.same (by decide) S
  refine q_coins F S14 ?_
  rw [show rd s14 4 0 6 = a 0 from S14.1.1]
  refine ⟨fun q => absurd rfl q, fun _ => q_sum F S14 p2 (q_acc S14 hsum ⟨fun q => absurd rfl q, fun _ => h s14 g14⟩)⟩
end CO
