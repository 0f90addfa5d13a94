/-! THE SHORTEST TIME -/
theorem sumN_add2 {p q : Nat → Nat} : ∀ n : Nat, sumN (fun i => p i + q i) n = sumN p n + sumN q n
  | 0 => rfl
  | n + 1 => by
    show sumN (fun i => p i + q i) n + (p n + q n) = sumN p n + p n + (sumN q n + q n)
    rw [sumN_add2 n]
    omega
theorem sumN_le2 {p q : Nat → Nat} : ∀ n : Nat, (∀ i : Nat, i < n → p i ≤ q i) → sumN p n ≤ sumN q n
  | 0, _ => Nat.le_refl 0
  | n + 1, h => Nat.add_le_add (sumN_le2 n (fun i hi => h i (by omega))) (h n (by omega))
theorem sumN_one {v j : Nat} : ∀ n : Nat, sumN (fun i => if j = i then v else 0) n = if j < n then v else 0
  | 0 => by rw [if_neg (Nat.not_lt_zero j)]; rfl
  | n + 1 => by
    show sumN (fun i => if j = i then v else 0) n + (if j = n then v else 0) = _
    rw [sumN_one n]
    by_cases c : j = n
    · rw [if_pos c, if_neg (by omega), if_pos (by omega)]
      omega
    · rw [if_neg c]
      by_cases c2 : j < n
      · rw [if_pos c2, if_pos (by omega)]
        exact Nat.add_zero v
      · rw [if_neg c2, if_neg (by omega)]
theorem sumN_swap {T a : Nat → Nat} {m : Nat} (ha : ∀ q : Nat, a q < m) : ∀ n : Nat, sumN (fun j => sumN (fun q => if a q = j then T q else 0) n) m = sumN T n
  | 0 => by
    have : ∀ k : Nat, sumN (fun _ => 0) k = 0 := fun k => by
      induction k with
      | zero => rfl
      | succ k ih => show sumN (fun _ => 0) k + 0 = 0; rw [ih]
    exact this m
  | n + 1 => by
    show sumN (fun j => sumN (fun q => if a q = j then T q else 0) n + (if a n = j then T n else 0)) m = sumN T n + T n
    rw [sumN_add2, sumN_swap ha n, sumN_one, if_pos (ha n)]
theorem sumN_bnd {p : Nat → Nat} {c : Nat} : ∀ n : Nat, (∀ i : Nat, i < n → p i ≤ c) → sumN p n ≤ n * c
  | 0, _ => Nat.zero_le _
  | n + 1, h => by
    have g := sumN_bnd n (fun i hi => h i (by omega))
    have g2 := h n (by omega)
    show sumN p n + p n ≤ (n + 1) * c
    rw [Nat.add_mul, Nat.one_mul]
    omega
theorem bit_all {n q : Nat} (h : q < n) : (2 ^ n - 1).testBit q = true := by
  rw [Nat.testBit_two_pow_sub_one]
  exact decide_eq_true h
/-- what a time that is shortest comes to -/
theorem opt_facts {T : Nat → Nat} {n m c : Nat} (hm : 1 ≤ m) (h : ∀ x : Nat, c ≤ x ↔ Aj T n (m - 1) (2 ^ n - 1) x) : mxN T n ≤ c ∧ sumN T n ≤ m * c ∧ c ≤ sumN T n := by
  have h2 : ∀ x : Nat, c ≤ x ↔ Asg T n m (2 ^ n - 1) x := fun x => by
    rw [h x, Aj_asg, Nat.sub_add_cancel hm]
  obtain ⟨a, ha, hl⟩ := (h2 c).mp (Nat.le_refl c)
  have el : ∀ j : Nat, sumN (fun q => if (2 ^ n - 1).testBit q && decide (a q = j) then T q else 0) n = sumN (fun q => if a q = j then T q else 0) n := fun j => sumN_cg fun q hq => by
    rw [bit_all hq, Bool.true_and]
    by_cases e : a q = j
    · rw [if_pos e, if_pos (decide_eq_true e)]
    · rw [if_neg e, if_neg (by simpa using e)]
  have hl2 : ∀ j : Nat, j < m → sumN (fun q => if a q = j then T q else 0) n ≤ c := fun j hj => by
    rw [← el]
    exact hl j hj
  refine ⟨mxN_le n (fun q hq => ?_), ?_, ?_⟩
  · have g := sumN_ge (p := fun i => if a i = a q then T i else 0) hq
    simp only [if_true] at g
    exact Nat.le_trans g (hl2 _ (ha q))
  · rw [← sumN_swap ha n]
    exact sumN_bnd m hl2
  · refine (h2 _).mpr ⟨fun _ => 0, fun _ => hm, fun j hj => sumN_le2 n (fun q hq => ?_)⟩
    split
    · exact Nat.le_refl _
    · exact Nat.zero_le _
theorem FT.frs {σ τ : Mem} (h : FT σ τ) : FrS σ τ := ⟨fun f k s n => h.1 f k s (by unfold scc at n; omega), h.2⟩
section TI
variable {t nB nO nP : Nat} {a : Nat → Int32} {σ : Mem} {l w : Nat → Nat}
theorem ts_of (F : Fits t nB nO nP a) (S : Same σ 0 nB nO nP a) (Z : Zer σ) (hlw : ∀ q : Nat, q < nO → a (55 + 3 * q) = nI (l q) ∧ a (56 + 3 * q) = nI (w q) ∧ (1 ≤ l q ∧ l q ≤ 40) ∧ 1 ≤ w q ∧ w q ≤ 9) : TSx σ nO (fun q => l q * w q) := by
  refine ⟨F.1.2.1, (S.rO 0 (by decide)).1, (S.rO 3 (by decide)).1, fun q hq => ⟨?_, ?_⟩, Z.1 3 (by decide)⟩
  · obtain ⟨h1, h2, -⟩ := hlw q hq
    refine ((S.rO 3 (by decide)).2 q hq).trans ?_
    show a (55 + 3 * q) * a (56 + 3 * q) = _
    rw [h1, h2, pk_mul]
  · exact Nat.mul_le_mul (hlw q hq).2.2.1.2 (hlw q hq).2.2.2.2
/-- both ways come to the same, and that is sound -/
theorem q_times {m : Nat} {P : Int32 → Int32 → Mem → Prop} {E : String → Mem → Prop} (F : Fits t nB nO nP a) (S : Same σ 0 nB nO nP a) (Z : Zer σ) (hlw : ∀ q : Nat, q < nO → a (55 + 3 * q) = nI (l q) ∧ a (56 + 3 * q) = nI (w q) ∧ (1 ≤ l q ∧ l q ≤ 40) ∧ 1 ≤ w q ∧ w q ≤ 9) (hm : 1 ≤ m ∧ m ≤ 3) (em : a 3 = nI m) {x : Int32} (hx : x = nI m)
    (h : ∀ (c : Nat) (τ : Mem), FrS σ τ → c ≤ 2880 → mxN (fun q => l q * w q) nO ≤ c → sumN (fun q => l q * w q) nO ≤ m * c → c ≤ sumN (fun q => l q * w q) nO → P (nI c) (nI c) τ) : wX11_shortestBySets x σ (fun r s => wX11_shortestBySearch (rd s 4 0 4) s (fun r2 s2 => P r r2 s2) E) E := by
  have hT : ∀ q : Nat, q < nO → l q * w q ≤ 360 := fun q hq => Nat.mul_le_mul (hlw q hq).2.2.1.2 (hlw q hq).2.2.2.2
  refine w_bySets (n := nO) (T := fun q => l q * w q) hx hm (ts_of F S Z hlw) (fun τ c t1 tc t2 => ?_)
  have S1 : Same τ 0 nB nO nP a := t1.frs.same (by decide) S
  have Z1 := t1.frs.zer Z
  refine w_bySearch (n := nO) (m := m) (T := fun q => l q * w q) (S1.1.2.2.2.1.trans em) hm.2 (ts_of F S1 Z1 hlw) (fun y c2 y1 y2 y3 _ => ?_)
  have h1 : ∀ x : Nat, c ≤ x ↔ 1000000 ≤ x ∨ (0 ≤ x ∧ Ach (fun q => l q * w q) m nO 0 (fun _ => 0) x) := fun x => by
    rw [t2 x, Aj_Ach (by omega)]
    refine ⟨fun q => Or.inr ⟨Nat.zero_le x, q⟩, fun q => ?_⟩
    rcases q with q | q
    · rw [← Aj_Ach (by omega), ← t2 x]
      omega
    · exact q.2
  have e := (opt_eq h1 y3 (ach_2880 F.1.2.1 (by omega) hT) (by omega) (by omega)).1
  subst e
  obtain ⟨f1, f2, f3⟩ := opt_facts hm.1 t2
  refine h c y (t1.frs.tr ⟨fun f k s n => y1 f k s (by unfold scc at n; omega) (by unfold scc at n; omega), y2⟩) tc f1 f2 f3
end TI
