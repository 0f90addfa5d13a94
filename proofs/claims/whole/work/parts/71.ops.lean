/-! THE CHANGES, ONE BY ONE: tools; machines; a new order -/
theorem btw_or {x lo hi : Int32} {l h : Nat} (hlo : lo = nI l) (hhi : hi = nI h) (hl : l ≤ h) (hh : h < 2 ^ 31) : (x < lo ∨ hi < x) ∨ ∃ w : Nat, l ≤ w ∧ w ≤ h ∧ x = nI w := by
  subst hlo
  subst hhi
  by_cases c : x < 0
  · refine Or.inl (Or.inl ?_)
    rw [Int32.lt_iff_toInt_lt] at c ⊢
    rw [nI_toInt (by omega)]
    have : (0 : Int32).toInt = 0 := by decide
    omega
  · obtain ⟨w, hw, rfl⟩ := nI_of c
    by_cases c1 : w < l
    · exact Or.inl (Or.inl (nI_lt c1 (by omega)))
    · by_cases c2 : h < w
      · exact Or.inl (Or.inr (nI_lt c2 hw))
      · exact Or.inr ⟨w, by omega, by omega, rfl⟩
theorem in_nb {lo hi : Int32} {l h w : Nat} (hlo : lo = nI l) (hhi : hi = nI h) (h1 : l ≤ w) (h2 : w ≤ h) (hh : h < 2 ^ 31) : ¬ (nI w < lo ∨ hi < nI w) := by
  subst hlo
  subst hhi
  rintro (q | q)
  · exact nI_nlt h1 (by omega) q
  · exact nI_nlt h2 (by omega) q
theorem w_btw0 {x lo hi : Int32} {σ : Mem} {Q : Int32 → Mem → Prop} {E : String → Mem → Prop} (hb : x < lo ∨ hi < x) (h : Q 0 σ) : wX12_isBetween x lo hi σ Q E := ⟨fun _ => h, fun n => ⟨fun _ => h, fun m => absurd hb (fun q => q.elim n m)⟩⟩
theorem w_btw1 {x lo hi : Int32} {σ : Mem} {Q : Int32 → Mem → Prop} {E : String → Mem → Prop} (hb : ¬ (x < lo ∨ hi < x)) (h : Q 1 σ) : wX12_isBetween x lo hi σ Q E := ⟨fun q => absurd (Or.inl q) hb, fun _ => ⟨fun q => absurd (Or.inr q) hb, fun _ => h⟩⟩
theorem w_in0 {x lo hi : Int32} {σ : Mem} {Q : Int32 → Mem → Prop} {E : String → Mem → Prop} (hb : x < lo ∨ hi < x) (h : Q 0 σ) : wX13_isIn x lo hi σ Q E := ⟨fun _ => h, fun n => ⟨fun _ => h, fun m => absurd hb (fun q => q.elim n m)⟩⟩
theorem w_in1 {x lo hi : Int32} {σ : Mem} {Q : Int32 → Mem → Prop} {E : String → Mem → Prop} (hb : ¬ (x < lo ∨ hi < x)) (h : Q 1 σ) : wX13_isIn x lo hi σ Q E := ⟨fun q => absurd (Or.inl q) hb, fun _ => ⟨fun q => absurd (Or.inr q) hb, fun _ => h⟩⟩
theorem FrR.w7 {σ τ : Mem} (h : FrR σ τ) (v : Int32) : FrR σ (wr τ 15 0 7 v) := h.w (Or.inr ⟨rfl, rfl, rfl⟩)
theorem FrR.w8 {σ τ : Mem} (h : FrR σ τ) (i : Nat) (v : Int32) : FrR σ (wr τ 10 8 i v) := h.w (Or.inl ⟨rfl, Or.inl rfl⟩)
theorem th_at (σ : Mem) (v : Int32) : rd (wr σ 15 0 7 v) 15 0 7 = v := by rw [rd_wr, if_pos ⟨rfl, rfl, rfl⟩]
theorem th_8 (σ : Mem) (i : Nat) (v : Int32) : rd (wr σ 10 8 i v) 15 0 7 = rd σ 15 0 7 := by rw [rd_wr, if_neg (by omega)]
/-- thrown at once -/
theorem thr_end {σ : Mem} {a : Nat → Int32} {h : Int32} {Q : Int32 → Mem → Prop} (τ : Mem) (u : FrR σ τ) (ha : rd τ 10 8 = a) (k : ∀ τ : Mem, FrR σ τ → rd τ 10 8 = a → rd τ 15 0 7 = h → Q 0 τ) : Q 0 (wr τ 15 0 7 h) := k _ (u.w7 h) ((row_7 τ h).trans ha) (th_at τ h)
/-- what the rows of bales and of orders hold -/
def gB (a : Nat → Int32) : Nat → Nat → Int32
  | 0, q => a (14 + 4 * q)
  | 1, q => a (15 + 4 * q)
  | 2, q => a (16 + 4 * q)
  | 3, q => a (17 + 4 * q)
  | _, q => a (15 + 4 * q) * a (17 + 4 * q)
def gO (a : Nat → Int32) : Nat → Nat → Int32
  | 0, q => a (54 + 3 * q)
  | 1, q => a (55 + 3 * q)
  | 2, q => a (56 + 3 * q)
  | _, q => a (55 + 3 * q) * a (56 + 3 * q)
theorem Same.rB {σ : Mem} {nB nO nP : Nat} {a : Nat → Int32} (S : Same σ 0 nB nO nP a) : ∀ i : Nat, i < 5 → rd σ 0 (0 + i) 1 = nI nB ∧ ∀ q : Nat, q < nB → rd σ 1 (0 + i) q = gB a i q := by
  intro i hi
  refine ⟨S.2.1 i hi, fun q hq => ?_⟩
  have e := S.2.2.2.2.1 q hq
  match i, hi with
  | 0, _ => exact e.1
  | 1, _ => exact e.2.1
  | 2, _ => exact e.2.2.1
  | 3, _ => exact e.2.2.2.1
  | 4, _ => exact e.2.2.2.2
theorem Same.rO {σ : Mem} {nB nO nP : Nat} {a : Nat → Int32} (S : Same σ 0 nB nO nP a) : ∀ i : Nat, i < 4 → rd σ 0 (5 + i) 1 = nI nO ∧ ∀ q : Nat, q < nO → rd σ 1 (5 + i) q = gO a i q := by
  intro i hi
  refine ⟨S.2.2.1 i hi, fun q hq => ?_⟩
  have e := S.2.2.2.2.2.1 q hq
  match i, hi with
  | 0, _ => exact e.1
  | 1, _ => exact e.2.1
  | 2, _ => exact e.2.2.1
  | 3, _ => exact e.2.2.2
theorem Same.mk0 {τ : Mem} {nB nO nP : Nat} {a : Nat → Int32}
    (hs : rd τ 4 0 6 = a 0 ∧ rd τ 4 0 3 = a 1 ∧ rd τ 4 0 5 = a 2 ∧ rd τ 4 0 4 = a 3 ∧ rd τ 4 0 7 = a 4 ∧ rd τ 4 0 8 = a 5 ∧ rd τ 4 0 9 = a 6 ∧ rd τ 4 0 10 = a 7 ∧ rd τ 4 0 11 = a 8 ∧ rd τ 2 0 5 = a 9 ∧ rd τ 3 0 4 = a 10)
    (rB : ∀ i : Nat, i < 5 → rd τ 0 (0 + i) 1 = nI nB ∧ ∀ q : Nat, q < nB → rd τ 1 (0 + i) q = gB a i q) (rO : ∀ i : Nat, i < 4 → rd τ 0 (5 + i) 1 = nI nO ∧ ∀ q : Nat, q < nO → rd τ 1 (5 + i) q = gO a i q)
    (rP : rd τ 0 9 1 = nI nP ∧ ∀ q : Nat, q < nP → rd τ 1 9 q = a (78 + q)) : Same τ 0 nB nO nP a := by
  refine ⟨hs, fun i hi => (rB i hi).1, fun i hi => (rO i hi).1, rP.1, fun q hq => ?_, fun q hq => ?_, rP.2⟩
  · exact ⟨(rB 0 (by decide)).2 q hq, (rB 1 (by decide)).2 q hq, (rB 2 (by decide)).2 q hq, (rB 3 (by decide)).2 q hq, (rB 4 (by decide)).2 q hq⟩
  · exact ⟨(rO 0 (by decide)).2 q hq, (rO 1 (by decide)).2 q hq, (rO 2 (by decide)).2 q hq, (rO 3 (by decide)).2 q hq⟩
theorem gB_cg {a b : Nat → Int32} (h : ∀ s : Nat, 14 ≤ s → s < 54 → a s = b s) {i q : Nat} (hq : q < 10) : gB a i q = gB b i q := by
  match i with
  | 0 => exact h _ (by omega) (by omega)
  | 1 => exact h _ (by omega) (by omega)
  | 2 => exact h _ (by omega) (by omega)
  | 3 => exact h _ (by omega) (by omega)
  | i + 4 =>
    show a (15 + 4 * q) * a (17 + 4 * q) = b (15 + 4 * q) * b (17 + 4 * q)
    rw [h (15 + 4 * q) (by omega) (by omega), h (17 + 4 * q) (by omega) (by omega)]
theorem gO_cg {a b : Nat → Int32} (h : ∀ s : Nat, 54 ≤ s → s < 78 → a s = b s) {i q : Nat} (hq : q < 8) : gO a i q = gO b i q := by
  match i with
  | 0 => exact h _ (by omega) (by omega)
  | 1 => exact h _ (by omega) (by omega)
  | 2 => exact h _ (by omega) (by omega)
  | i + 3 =>
    show a (55 + 3 * q) * a (56 + 3 * q) = b (55 + 3 * q) * b (56 + 3 * q)
    rw [h (55 + 3 * q) (by omega) (by omega), h (56 + 3 * q) (by omega) (by omega)]
theorem op_4 {t nB nO nP : Nat} {a : Nat → Int32} (x1 : Int32) (F : Fits t nB nO nP a) : Ch 4 x1 0 0 [(1, 1)] (wX13_has x1) t nB nO nP a := by
  rcases btw_or (x := x1) (lo := 1) (hi := 3) (l := 1) (h := 3) rfl rfl (by decide) (by decide) with hb | ⟨w, h1, h2, hx⟩
  · refine Or.inl ⟨1, 1, by simp, fun σ Q E S _ h => ?_, fun σ Q E ha h => ?_⟩
    · exact ⟨fun q => absurd q (by decide), fun q => absurd q (by decide), fun q => absurd q (by decide), fun q => absurd q (by decide), fun _ => w_btw0 hb ⟨fun _ => h σ (FrS.rf σ), fun q => absurd rfl q⟩, fun q => absurd q (by decide), fun q => absurd q (by decide), fun q => absurd q (by decide), fun q => absurd q (by decide)⟩
    · exact w_in0 hb ⟨fun q => absurd rfl q, fun _ => w_thr1 ⟨fun q => absurd q (by decide), fun _ => thr_end σ (FrR.rf σ) ha h⟩⟩
  · subst hx
    have nb : ¬ (nI w < 1 ∨ 3 < nI w) := in_nb rfl rfl h1 h2 (by decide)
    have hB := F.1.1
    have hO := F.1.2.1
    have hP := F.1.2.2.1
    refine Or.inr ⟨nB, nO, nP, up a 3 (nI w), a 3, ?_, fun σ Q E S _ h => ?_, fun σ Q E S _ h => ?_, fun σ Q E ha h => ?_⟩
    · obtain ⟨⟨f1, f2, f3, f4, f5, f6⟩, g1, g2, g3, g4, g5, g6, ⟨p, p1, p2, p3⟩, g8⟩ := F.mono (Nat.le_succ t)
      refine ⟨⟨f1, f2, f3, ?_, ?_, ?_⟩, ⟨w, h1, h2, up_eq _ _ _⟩, ?_, ?_, ?_, fun q hq => ?_, fun q hq => ?_, ⟨p, fun q hq => ?_, p2, ?_⟩, ?_⟩
      all_goals repeat (first | rw [up_ne (by omega)] | rw [up_eq])
      · exact f4
      · exact f5
      · exact f6
      · exact g2
      · exact g3
      · exact g4
      · exact g5 q hq
      · exact g6 q hq
      · exact p1 q hq
      · exact p3
      · exact g8
    · exact ⟨fun q => absurd q (by decide), fun q => absurd q (by decide), fun q => absurd q (by decide), fun q => absurd q (by decide), fun _ => w_btw1 nb ⟨fun q => absurd q (by decide), fun _ => h σ (FrS.rf σ)⟩, fun q => absurd q (by decide), fun q => absurd q (by decide), fun q => absurd q (by decide), fun q => absurd q (by decide)⟩
    · refine ⟨fun q => absurd q (by decide), fun q => absurd q (by decide), fun q => absurd q (by decide), fun q => absurd q (by decide), fun _ => ?_, fun q => absurd q (by decide), fun q => absurd q (by decide), fun q => absurd q (by decide), fun q => absurd q (by decide)⟩
      intro v hv s2 hs2
      obtain ⟨z6, z3, z5, z4, z7, z8, z9, z10, z11, y2, y3⟩ := S.1
      have hv' : v = a 3 := hv.trans z4
      subst hv'
      have g : ∀ f k s : Nat, ¬ (f = 4 ∧ k = 0 ∧ s = 4) → rd s2 f k s = rd σ f k s := fun f k s n => by rw [hs2, rd_wr, if_neg n]
      refine h s2 ?_ (Same.mk0 ⟨?_, ?_, ?_, ?_, ?_, ?_, ?_, ?_, ?_, ?_, ?_⟩ (fun i hi => ?_) (fun i hi => ?_) ⟨?_, fun q hq => ?_⟩)
      · rw [hs2]
        exact (FrC.rf σ).w (by unfold SIn; omega)
      · rw [g 4 0 6 (by omega), up_ne (by omega)]; exact z6
      · rw [g 4 0 3 (by omega), up_ne (by omega)]; exact z3
      · rw [g 4 0 5 (by omega), up_ne (by omega)]; exact z5
      · rw [hs2, rd_wr, if_pos ⟨rfl, rfl, rfl⟩, up_eq]
      · rw [g 4 0 7 (by omega), up_ne (by omega)]; exact z7
      · rw [g 4 0 8 (by omega), up_ne (by omega)]; exact z8
      · rw [g 4 0 9 (by omega), up_ne (by omega)]; exact z9
      · rw [g 4 0 10 (by omega), up_ne (by omega)]; exact z10
      · rw [g 4 0 11 (by omega), up_ne (by omega)]; exact z11
      · rw [g 2 0 5 (by omega), up_ne (by omega)]; exact y2
      · rw [g 3 0 4 (by omega), up_ne (by omega)]; exact y3
      · exact ⟨(g 0 _ 1 (by omega)).trans (S.rB i hi).1, fun q hq => (g 1 _ q (by omega)).trans (((S.rB i hi).2 q hq).trans (gB_cg (fun s _ _ => (up_ne (by omega)).symm) (by omega)))⟩
      · exact ⟨(g 0 _ 1 (by omega)).trans (S.rO i hi).1, fun q hq => (g 1 _ q (by omega)).trans (((S.rO i hi).2 q hq).trans (gO_cg (fun s _ _ => (up_ne (by omega)).symm) (by omega)))⟩
      · exact (g 0 9 1 (by omega)).trans S.2.2.2.1
      · rw [g 1 9 q (by omega), up_ne (by omega)]
        exact S.2.2.2.2.2.2 q hq
    · refine w_in1 nb ⟨fun _ => w_thr0 ⟨fun _ v hv s6 hs6 => ?_, fun q => absurd rfl q⟩, fun q => absurd q (by decide)⟩
      rw [row_7, ha] at hv
      subst hv
      refine h s6 (by rw [hs6]; exact ((FrR.rf σ).w7 0).w8 3 _) (by rw [hs6, row_8, row_7, ha]) (by rw [hs6, th_8, th_at])
