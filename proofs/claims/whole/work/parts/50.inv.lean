/-! THE INVARIANT OF THE LAW'S LOOP: the class's stocks and the reference's rows -/
def sumN (p : Nat → Nat) : Nat → Nat
  | 0 => 0
  | n + 1 => sumN p n + p n
/-- a row of the reference is sound: nB bales, nO orders, nP pieces; t bounds what was spun and the ids -/
def Fits (t nB nO nP : Nat) (a : Nat → Int32) : Prop :=
  (nB ≤ 10 ∧ nO ≤ 8 ∧ nP ≤ 12 ∧ a 11 = nI nB ∧ a 12 = nI nO ∧ a 13 = nI nP) ∧
  (∃ m : Nat, 1 ≤ m ∧ m ≤ 3 ∧ a 3 = nI m) ∧ (∃ r : Nat, r ≤ 999 ∧ a 1 = nI r) ∧ (∃ i : Nat, i ≤ t ∧ a 9 = nI i) ∧ (∃ i : Nat, i ≤ t ∧ a 10 = nI i) ∧
  (∀ q : Nat, q < nB → (∃ i : Nat, i < t ∧ a (14 + 4 * q) = nI i) ∧ (∃ w : Nat, 1 ≤ w ∧ w ≤ 50 ∧ a (15 + 4 * q) = nI w) ∧ (∃ w : Nat, 10 ≤ w ∧ w ≤ 60 ∧ a (16 + 4 * q) = nI w) ∧ ∃ w : Nat, 1 ≤ w ∧ w ≤ 20 ∧ a (17 + 4 * q) = nI w) ∧
  (∀ q : Nat, q < nO → (∃ i : Nat, i < t ∧ a (54 + 3 * q) = nI i) ∧ (∃ w : Nat, 1 ≤ w ∧ w ≤ 40 ∧ a (55 + 3 * q) = nI w) ∧ ∃ w : Nat, 1 ≤ w ∧ w ≤ 9 ∧ a (56 + 3 * q) = nI w) ∧
  (∃ p : Nat → Nat, (∀ q : Nat, q < nP → 1 ≤ p q ∧ a (78 + q) = nI (p q)) ∧ sumN p nP ≤ 40 * t ∧ a 6 - a 8 - a 7 = nI (sumN p nP)) ∧
  a 0 = 1000 - a 4 + a 5
/-- stock k of the class holds what the row a of the reference holds -/
def Same (σ : Mem) (k nB nO nP : Nat) (a : Nat → Int32) : Prop :=
  (rd σ 4 k 6 = a 0 ∧ rd σ 4 k 3 = a 1 ∧ rd σ 4 k 5 = a 2 ∧ rd σ 4 k 4 = a 3 ∧ rd σ 4 k 7 = a 4 ∧ rd σ 4 k 8 = a 5 ∧ rd σ 4 k 9 = a 6 ∧ rd σ 4 k 10 = a 7 ∧ rd σ 4 k 11 = a 8 ∧ rd σ 2 k 5 = a 9 ∧ rd σ 3 k 4 = a 10) ∧
  (∀ i : Nat, i < 5 → rd σ 0 (10 * k + i) 1 = nI nB) ∧ (∀ i : Nat, i < 4 → rd σ 0 (10 * k + 5 + i) 1 = nI nO) ∧ rd σ 0 (10 * k + 9) 1 = nI nP ∧
  (∀ q : Nat, q < nB → rd σ 1 (10 * k) q = a (14 + 4 * q) ∧ rd σ 1 (10 * k + 1) q = a (15 + 4 * q) ∧ rd σ 1 (10 * k + 2) q = a (16 + 4 * q) ∧ rd σ 1 (10 * k + 3) q = a (17 + 4 * q) ∧ rd σ 1 (10 * k + 4) q = a (15 + 4 * q) * a (17 + 4 * q)) ∧
  (∀ q : Nat, q < nO → rd σ 1 (10 * k + 5) q = a (54 + 3 * q) ∧ rd σ 1 (10 * k + 6) q = a (55 + 3 * q) ∧ rd σ 1 (10 * k + 7) q = a (56 + 3 * q) ∧ rd σ 1 (10 * k + 8) q = a (55 + 3 * q) * a (56 + 3 * q)) ∧
  ∀ q : Nat, q < nP → rd σ 1 (10 * k + 9) q = a (78 + q)
def StOk (t : Nat) (σ : Mem) (k : Nat) (a : Nat → Int32) : Prop := ∃ nB nO nP : Nat, Fits t nB nO nP a ∧ Same σ k nB nO nP a
/-- the text of builder b is the first n of a -/
def Txt (σ : Mem) (b n : Nat) (a : Nat → Int32) : Prop := rd σ 13 b 1 = 0 ∧ rd σ 13 b 3 = nI n ∧ n ≤ σ.2.2.1 b ∧ (σ.2.2.1 b = 16 ∨ σ.2.2.1 b = 34 ∨ σ.2.2.1 b = 70 ∨ σ.2.2.1 b = 142) ∧ (∀ i : Nat, i < n → rd σ 16 b i = a i ∧ ∃ c : Nat, c < 128 ∧ a i = nI c) ∧ ∀ i : Nat, i < σ.2.2.1 b → fits .byte (.int (rd σ 16 b i)) = true
/-- cells that stay zero: the sums of the empty set, the reference's loads -/
def Zer (σ : Mem) : Prop := (∀ k : Nat, k < 4 → rd σ 10 k 0 = 0) ∧ ∀ m : Nat, m < 3 → rd σ 10 12 m = 0
def InvT (t nT nL nC nx : Nat) (σ : Mem) : Prop :=
  (nT ≤ 60 ∧ nL ≤ 90 ∧ nC ≤ 8 ∧ nx < 8) ∧ StOk t σ 0 (rd σ 10 8) ∧
  (rd σ 14 0 3 = rd σ 15 0 12 ∧ (rd σ 15 0 12 = 0 ∨ (rd σ 15 0 12 = 1 ∧ StOk t σ 2 (rd σ 10 10)))) ∧
  (rd σ 5 0 1 = nI nx ∧ rd σ 5 0 2 = nI nC ∧ rd σ 15 0 6 = nI nC ∧ ∀ i : Nat, i < nC → StOk t σ (3 + (nx + 8 - nC + i) % 8) (fun q => rd σ 10 11 (90 * i + q))) ∧
  (rd σ 14 0 11 = rd σ 15 0 8 ∧ (rd σ 15 0 8 = -1 ∨ 0 ≤ rd σ 15 0 8)) ∧ (rd σ 14 0 12 = rd σ 15 0 9 ∧ (rd σ 15 0 9 = -1 ∨ 0 ≤ rd σ 15 0 9)) ∧
  (Txt σ 1 nL (rd σ 10 14) ∧ rd σ 15 0 14 = nI nL) ∧ (Txt σ 0 nT (rd σ 10 15) ∧ rd σ 15 0 17 = nI nT) ∧ Zer σ
def Inv (j : Nat) (σ : Mem) : Prop := ∃ t nT nL nC nx : Nat, t + nT ≤ j ∧ InvT t nT nL nC nx σ
/-- the cells that the invariant speaks of; all else is scratch -/
def ess (f k s : Nat) : Bool := if f = 0 ∨ f = 1 then k < 110 else if f = 15 then s = 6 ∨ s = 8 ∨ s = 9 ∨ s = 12 ∨ s = 14 ∨ s = 17 else if f = 10 then k = 8 ∨ k = 10 ∨ k = 11 ∨ k = 14 ∨ k = 15 ∨ k = 12 ∨ (k < 4 ∧ s = 0) else f = 2 ∨ f = 3 ∨ f = 4 ∨ f = 5 ∨ f = 13 ∨ f = 14 ∨ f = 16
/-- all but scratch is the same -/
def Kp (σ σ' : Mem) : Prop := (∀ f k s : Nat, ess f k s = true → rd σ' f k s = rd σ f k s) ∧ σ'.2.2.1 = σ.2.2.1
theorem Kp.rf (σ : Mem) : Kp σ σ := ⟨fun _ _ _ _ => rfl, rfl⟩
theorem Kp.tr {σ σ1 σ2 : Mem} (h1 : Kp σ σ1) (h2 : Kp σ1 σ2) : Kp σ σ2 := ⟨fun f k s h => (h2.1 f k s h).trans (h1.1 f k s h), h2.2.trans h1.2⟩
theorem Kp.wr {σ : Mem} {f k s : Nat} {v : Int32} (h : ess f k s = false) : Kp σ (wr σ f k s v) := by
  refine ⟨fun f' k' s' h' => ?_, rfl⟩
  rw [rd_wr, if_neg]
  rintro ⟨rfl, rfl, rfl⟩
  rw [h] at h'
  cases h'
theorem Kp.wrL {σ : Mem} {v : Int64} : Kp σ (wrL σ v) := ⟨fun _ _ _ _ => rfl, rfl⟩
theorem Kp.wrD {σ : Mem} {v : UInt64} : Kp σ (wrD σ v) := ⟨fun _ _ _ _ => rfl, rfl⟩
theorem ess_row {k i : Nat} (hk : k < 11) (hi : i < 10) (s : Nat) : ess 0 (10 * k + i) s = true ∧ ess 1 (10 * k + i) s = true := by
  have h : 10 * k + i < 110 := by omega
  exact ⟨by simp [ess, h], by simp [ess, h]⟩
theorem Same.kept {σ σ' : Mem} {k nB nO nP : Nat} {a : Nat → Int32} (hk : k < 11) (h : Kp σ σ') (S : Same σ k nB nO nP a) : Same σ' k nB nO nP a := by
  obtain ⟨⟨h0, h1, h2, h3, h4, h5, h6, h7, h8, h9, h10⟩, r1, r2, r3, b1, b2, b3⟩ := S
  have e4 : ∀ s, rd σ' 4 k s = rd σ 4 k s := fun s => h.1 4 k s rfl
  have e0 : ∀ i s, i < 10 → rd σ' 0 (10 * k + i) s = rd σ 0 (10 * k + i) s := fun i s hi => h.1 0 _ s (ess_row hk hi s).1
  have e1 : ∀ i s, i < 10 → rd σ' 1 (10 * k + i) s = rd σ 1 (10 * k + i) s := fun i s hi => h.1 1 _ s (ess_row hk hi s).2
  refine ⟨⟨by rw [e4]; exact h0, by rw [e4]; exact h1, by rw [e4]; exact h2, by rw [e4]; exact h3, by rw [e4]; exact h4, by rw [e4]; exact h5, by rw [e4]; exact h6, by rw [e4]; exact h7, by rw [e4]; exact h8, by rw [h.1 2 k 5 rfl]; exact h9, by rw [h.1 3 k 4 rfl]; exact h10⟩, fun i hi => by rw [e0 i 1 (by omega)]; exact r1 i hi, fun i hi => ?_, by rw [e0 9 1 (by omega)]; exact r3, fun q hq => ?_, fun q hq => ?_, fun q hq => by rw [e1 9 q (by omega)]; exact b3 q hq⟩
  · have := e0 (5 + i) 1 (by omega)
    rw [← Nat.add_assoc] at this
    rw [this]
    exact r2 i hi
  · rw [show 10 * k = 10 * k + 0 from rfl, e1 0 q (by omega), e1 1 q (by omega), e1 2 q (by omega), e1 3 q (by omega), e1 4 q (by omega)]
    exact b1 q hq
  · rw [e1 5 q (by omega), e1 6 q (by omega), e1 7 q (by omega), e1 8 q (by omega)]
    exact b2 q hq
theorem StOk.kept {t k : Nat} {σ σ' : Mem} {a : Nat → Int32} (hk : k < 11) (h : Kp σ σ') : StOk t σ k a → StOk t σ' k a := fun ⟨nB, nO, nP, hf, hs⟩ => ⟨nB, nO, nP, hf, hs.kept hk h⟩
theorem Txt.kept {b n : Nat} {σ σ' : Mem} {a : Nat → Int32} (h : Kp σ σ') (x : Txt σ b n a) : Txt σ' b n a := by
  obtain ⟨h1, h2, h3, h4, h5, h6⟩ := x
  exact ⟨by rw [h.1 13 b 1 rfl]; exact h1, by rw [h.1 13 b 3 rfl]; exact h2, by rw [h.2]; exact h3, by rw [h.2]; exact h4, fun i hi => by rw [h.1 16 b i rfl]; exact h5 i hi, fun i hi => by rw [h.1 16 b i rfl]; rw [h.2] at hi; exact h6 i hi⟩
theorem InvT.kept {t nT nL nC nx : Nat} {σ σ' : Mem} (h : Kp σ σ') (x : InvT t nT nL nC nx σ) : InvT t nT nL nC nx σ' := by
  obtain ⟨h1, h2, h3, ⟨h4, h5, h6, h7⟩, h8, h9, h10, h11, hZ⟩ := x
  have e8 : rd σ' 10 8 = rd σ 10 8 := funext fun s => h.1 10 8 s rfl
  have e10 : rd σ' 10 10 = rd σ 10 10 := funext fun s => h.1 10 10 s rfl
  have e11 : rd σ' 10 11 = rd σ 10 11 := funext fun s => h.1 10 11 s rfl
  have e14 : rd σ' 10 14 = rd σ 10 14 := funext fun s => h.1 10 14 s rfl
  have e15 : rd σ' 10 15 = rd σ 10 15 := funext fun s => h.1 10 15 s rfl
  refine ⟨h1, by rw [e8]; exact h2.kept (by decide) h, ⟨by rw [h.1 14 0 3 rfl, h.1 15 0 12 rfl]; exact h3.1, ?_⟩, ⟨by rw [h.1 5 0 1 rfl]; exact h4, by rw [h.1 5 0 2 rfl]; exact h5, by rw [h.1 15 0 6 rfl]; exact h6, fun i hi => by rw [e11]; exact (h7 i hi).kept (by omega) h⟩, by rw [h.1 14 0 11 rfl, h.1 15 0 8 rfl]; exact h8, by rw [h.1 14 0 12 rfl, h.1 15 0 9 rfl]; exact h9, ⟨by rw [e14]; exact h10.1.kept h, by rw [h.1 15 0 14 rfl]; exact h10.2⟩, ⟨by rw [e15]; exact h11.1.kept h, by rw [h.1 15 0 17 rfl]; exact h11.2⟩, fun k hk => by rw [h.1 10 k 0 (by simp [ess, hk])]; exact hZ.1 k hk, fun m hm => by rw [h.1 10 12 m rfl]; exact hZ.2 m hm⟩
  rw [h.1 15 0 12 rfl, e10]
  exact h3.2.imp id fun z => ⟨z.1, z.2.kept (by decide) h⟩
theorem Inv.kept {j : Nat} {σ σ' : Mem} (h : Kp σ σ') : Inv j σ → Inv j σ' := fun ⟨t, nT, nL, nC, nx, h1, h2⟩ => ⟨t, nT, nL, nC, nx, h1, h2.kept h⟩
theorem Inv.up {j : Nat} {σ : Mem} : Inv j σ → Inv (j + 1) σ := fun ⟨t, nT, nL, nC, nx, h1, h2⟩ => ⟨t, nT, nL, nC, nx, Nat.le_succ_of_le h1, h2⟩
/-- the usual end: only scratch was written -/
theorem Inv.to {j : Nat} {σ σ' : Mem} (I : Inv j σ) (h : Kp σ σ') : Inv (j + 1) σ' := (I.kept h).up
