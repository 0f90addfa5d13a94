/-! THE CHANGES, ONE BY ONE: tools; machines; a new order -/
theorem btw_or {x lo hi : Int32} {l h : Nat} (hlo : lo = nI l) (hhi : hi = nI h) (hl : l ≤ h) (hh : h < 2 ^ 31) : (x < lo ∨ hi < x) ∨ ∃ w : Nat, l ≤ w ∧ w ≤ h ∧ x = nI w := by
  subst hlo
  subst hhi
  by_cases c : x < 0
  · refine Or.inl (Or.inl ?_)
    rw [Int32.lt_iff_toInt_lt] at c ⊢
    rw [nI_toInt (by omega)]
    have : (0 : Int32).toInt = 0 := by decide
    omega
  · obtain ⟨w, hw, rfl⟩ := nI_of c
    by_cases c1 : w < l
    · exact Or.inl (Or.inl (nI_lt c1 (by omega)))
    · by_cases c2 : h < w
      · exact Or.inl (Or.inr (nI_lt c2 hw))
      · exact Or.inr ⟨w, by omega, by omega, rfl⟩
theorem in_nb {lo hi : Int32} {l h w : Nat} (hlo : lo = nI l) (hhi : hi = nI h) (h1 : l ≤ w) (h2 : w ≤ h) (hh : h < 2 ^ 31) : ¬ (nI w < lo ∨ hi < nI w) := by
  subst hlo
  subst hhi
  rintro (q | q)
  · exact nI_nlt h1 (by omega) q
  · exact nI_nlt h2 (by omega) q
theorem w_btw0 {x lo hi : Int32} {σ : Mem} {Q : Int32 → Mem → Prop} {E : String → Mem → Prop} (hb : x < lo ∨ hi < x) (h : Q 0 σ) : wX12_isBetween x lo hi σ Q E := ⟨fun _ => h, fun n => ⟨fun _ => h, fun m => absurd hb (fun q => q.elim n m)⟩⟩
theorem w_btw1 {x lo hi : Int32} {σ : Mem} {Q : Int32 → Mem → Prop} {E : String → Mem → Prop} (hb : ¬ (x < lo ∨ hi < x)) (h : Q 1 σ) : wX12_isBetween x lo hi σ Q E := ⟨fun q => absurd (Or.inl q) hb, fun _ => ⟨fun q => absurd (Or.inr q) hb, fun _ => h⟩⟩
theorem th_at (σ : Mem) (v : Int32) : rd (wr σ 15 0 7 v) 15 0 7 = v := by rw [rd_wr, if_pos ⟨rfl, rfl, rfl⟩]
/-- what the rows of bales and of orders hold -/
def gB (a : Nat → Int32) : Nat → Nat → Int32
  | 0, q => a (14 + 4 * q)
  | 1, q => a (15 + 4 * q)
  | 2, q => a (16 + 4 * q)
  | 3, q => a (17 + 4 * q)
  | _, q => a (15 + 4 * q) * a (17 + 4 * q)
def gO (a : Nat → Int32) : Nat → Nat → Int32
  | 0, q => a (54 + 3 * q)
  | 1, q => a (55 + 3 * q)
  | 2, q => a (56 + 3 * q)
  | _, q => a (55 + 3 * q) * a (56 + 3 * q)
theorem Same.rB {σ : Mem} {nB nO nP : Nat} {a : Nat → Int32} (S : Same σ 0 nB nO nP a) : ∀ i : Nat, i < 5 → rd σ 0 (0 + i) 1 = nI nB ∧ ∀ q : Nat, q < nB → rd σ 1 (0 + i) q = gB a i q := by
  intro i hi
  refine ⟨S.2.1 i hi, fun q hq => ?_⟩
  have e := S.2.2.2.2.1 q hq
  match i, hi with
  | 0, _ => exact e.1
  | 1, _ => exact e.2.1
  | 2, _ => exact e.2.2.1
  | 3, _ => exact e.2.2.2.1
  | 4, _ => exact e.2.2.2.2
theorem Same.rO {σ : Mem} {nB nO nP : Nat} {a : Nat → Int32} (S : Same σ 0 nB nO nP a) : ∀ i : Nat, i < 4 → rd σ 0 (5 + i) 1 = nI nO ∧ ∀ q : Nat, q < nO → rd σ 1 (5 + i) q = gO a i q := by
  intro i hi
  refine ⟨S.2.2.1 i hi, fun q hq => ?_⟩
  have e := S.2.2.2.2.2.1 q hq
  match i, hi with
  | 0, _ => exact e.1
  | 1, _ => exact e.2.1
  | 2, _ => exact e.2.2.1
  | 3, _ => exact e.2.2.2
theorem Same.mk0 {τ : Mem} {nB nO nP : Nat} {a : Nat → Int32}
    (hs : rd τ 4 0 6 = a 0 ∧ rd τ 4 0 3 = a 1 ∧ rd τ 4 0 5 = a 2 ∧ rd τ 4 0 4 = a 3 ∧ rd τ 4 0 7 = a 4 ∧ rd τ 4 0 8 = a 5 ∧ rd τ 4 0 9 = a 6 ∧ rd τ 4 0 10 = a 7 ∧ rd τ 4 0 11 = a 8 ∧ rd τ 2 0 5 = a 9 ∧ rd τ 3 0 4 = a 10)
    (rB : ∀ i : Nat, i < 5 → rd τ 0 (0 + i) 1 = nI nB ∧ ∀ q : Nat, q < nB → rd τ 1 (0 + i) q = gB a i q) (rO : ∀ i : Nat, i < 4 → rd τ 0 (5 + i) 1 = nI nO ∧ ∀ q : Nat, q < nO → rd τ 1 (5 + i) q = gO a i q)
    (rP : rd τ 0 9 1 = nI nP ∧ ∀ q : Nat, q < nP → rd τ 1 9 q = a (78 + q)) : Same τ 0 nB nO nP a := by
  refine ⟨hs, fun i hi => (rB i hi).1, fun i hi => (rO i hi).1, rP.1, fun q hq => ?_, fun q hq => ?_, rP.2⟩
  · exact ⟨(rB 0 (by decide)).2 q hq, (rB 1 (by decide)).2 q hq, (rB 2 (by decide)).2 q hq, (rB 3 (by decide)).2 q hq, (rB 4 (by decide)).2 q hq⟩
  · exact ⟨(rO 0 (by decide)).2 q hq, (rO 1 (by decide)).2 q hq, (rO 2 (by decide)).2 q hq, (rO 3 (by decide)).2 q hq⟩
theorem gB_cg {a b : Nat → Int32} (h : ∀ s : Nat, 14 ≤ s → s < 54 → a s = b s) {i q : Nat} (hq : q < 10) : gB a i q = gB b i q := by
  match i with
  | 0 => exact h _ (by omega) (by omega)
  | 1 => exact h _ (by omega) (by omega)
  | 2 => exact h _ (by omega) (by omega)
  | 3 => exact h _ (by omega) (by omega)
  | i + 4 =>
    show a (15 + 4 * q) * a (17 + 4 * q) = b (15 + 4 * q) * b (17 + 4 * q)
    rw [h (15 + 4 * q) (by omega) (by omega), h (17 + 4 * q) (by omega) (by omega)]
theorem gO_cg {a b : Nat → Int32} (h : ∀ s : Nat, 54 ≤ s → s < 78 → a s = b s) {i q : Nat} (hq : q < 8) : gO a i q = gO b i q := by
  match i with
  | 0 => exact h _ (by omega) (by omega)
  | 1 => exact h _ (by omega) (by omega)
  | 2 => exact h _ (by omega) (by omega)
  | i + 3 =>
    show a (55 + 3 * q) * a (56 + 3 * q) = b (55 + 3 * q) * b (56 + 3 * q)
    rw [h (55 + 3 * q) (by omega) (by omega), h (56 + 3 * q) (by omega) (by omega)]
