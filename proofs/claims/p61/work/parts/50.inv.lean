/-! THE INVARIANT OF THE LAW'S LOOP: the class's stocks and the reference's rows -/
def sumN (p : Nat → Nat) : Nat → Nat
  | 0 => 0
  | n + 1 => sumN p n + p n
/-- a row of the reference is sound: nB bales, nO orders, nP pieces; t bounds what was spun and the ids -/
def Fits (t nB nO nP : Nat) (a : Nat → Int32) : Prop :=
  (nB ≤ 10 ∧ nO ≤ 8 ∧ nP ≤ 12 ∧ a 11 = nI nB ∧ a 12 = nI nO ∧ a 13 = nI nP) ∧
  (∃ m : Nat, 1 ≤ m ∧ m ≤ 3 ∧ a 3 = nI m) ∧ (∃ r : Nat, r ≤ 999 ∧ a 1 = nI r) ∧ (∃ i : Nat, i ≤ t ∧ a 9 = nI i) ∧ (∃ i : Nat, i ≤ t ∧ a 10 = nI i) ∧
  (∀ q : Nat, q < nB → (∃ i : Nat, i < t ∧ a (14 + 4 * q) = nI i) ∧ (∃ w : Nat, 1 ≤ w ∧ w ≤ 50 ∧ a (15 + 4 * q) = nI w) ∧ (∃ w : Nat, 10 ≤ w ∧ w ≤ 60 ∧ a (16 + 4 * q) = nI w) ∧ ∃ w : Nat, 1 ≤ w ∧ w ≤ 20 ∧ a (17 + 4 * q) = nI w) ∧
  (∀ q : Nat, q < nO → (∃ i : Nat, i < t ∧ a (54 + 3 * q) = nI i) ∧ (∃ w : Nat, 1 ≤ w ∧ w ≤ 40 ∧ a (55 + 3 * q) = nI w) ∧ ∃ w : Nat, 1 ≤ w ∧ w ≤ 9 ∧ a (56 + 3 * q) = nI w) ∧
  (∃ p : Nat → Nat, (∀ q : Nat, q < nP → 1 ≤ p q ∧ a (78 + q) = nI (p q)) ∧ sumN p nP ≤ 40 * t ∧ a 6 - a 8 - a 7 = nI (sumN p nP)) ∧
  a 0 = 1000 - a 4 + a 5
/-- stock k of the class holds what the row a of the reference holds -/
def Same (σ : Mem) (k nB nO nP : Nat) (a : Nat → Int32) : Prop :=
  (rd σ 4 k 6 = a 0 ∧ rd σ 4 k 3 = a 1 ∧ rd σ 4 k 5 = a 2 ∧ rd σ 4 k 4 = a 3 ∧ rd σ 4 k 7 = a 4 ∧ rd σ 4 k 8 = a 5 ∧ rd σ 4 k 9 = a 6 ∧ rd σ 4 k 10 = a 7 ∧ rd σ 4 k 11 = a 8 ∧ rd σ 2 k 5 = a 9 ∧ rd σ 3 k 4 = a 10) ∧
  (∀ i : Nat, i < 5 → rd σ 0 (10 * k + i) 1 = nI nB) ∧ (∀ i : Nat, i < 4 → rd σ 0 (10 * k + 5 + i) 1 = nI nO) ∧ rd σ 0 (10 * k + 9) 1 = nI nP ∧
  (∀ q : Nat, q < nB → rd σ 1 (10 * k) q = a (14 + 4 * q) ∧ rd σ 1 (10 * k + 1) q = a (15 + 4 * q) ∧ rd σ 1 (10 * k + 2) q = a (16 + 4 * q) ∧ rd σ 1 (10 * k + 3) q = a (17 + 4 * q) ∧ rd σ 1 (10 * k + 4) q = a (15 + 4 * q) * a (17 + 4 * q)) ∧
  (∀ q : Nat, q < nO → rd σ 1 (10 * k + 5) q = a (54 + 3 * q) ∧ rd σ 1 (10 * k + 6) q = a (55 + 3 * q) ∧ rd σ 1 (10 * k + 7) q = a (56 + 3 * q) ∧ rd σ 1 (10 * k + 8) q = a (55 + 3 * q) * a (56 + 3 * q)) ∧
  ∀ q : Nat, q < nP → rd σ 1 (10 * k + 9) q = a (78 + q)
def StOk (t : Nat) (σ : Mem) (k : Nat) (a : Nat → Int32) : Prop := ∃ nB nO nP : Nat, Fits t nB nO nP a ∧ Same σ k nB nO nP a
/-- the text of builder b is the first n of a -/
def Txt (σ : Mem) (b n : Nat) (a : Nat → Int32) : Prop := rd σ 13 b 1 = 0 ∧ rd σ 13 b 3 = nI n ∧ n ≤ σ.2.2.1 b ∧ (σ.2.2.1 b = 16 ∨ σ.2.2.1 b = 34 ∨ σ.2.2.1 b = 70 ∨ σ.2.2.1 b = 142) ∧ (∀ i : Nat, i < n → rd σ 16 b i = a i ∧ ∃ c : Nat, c < 128 ∧ a i = nI c) ∧ ∀ i : Nat, i < σ.2.2.1 b → fits .byte (.int (rd σ 16 b i)) = true
/-- cells that stay zero: the sums of the empty set, the reference's loads -/
def Zer (σ : Mem) : Prop := (∀ k : Nat, k < 4 → rd σ 10 k 0 = 0) ∧ ∀ m : Nat, m < 3 → rd σ 10 12 m = 0
