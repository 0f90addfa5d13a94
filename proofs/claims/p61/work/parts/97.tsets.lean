/-! THE SHORTEST TIME BY SETS -/
theorem sub_xor : ∀ s : Nat, s < 256 → ∀ p : Nat, p < 256 → p &&& s = p → s - p = s ^^^ p := by decide +kernel
def Aj (T : Nat → Nat) (n : Nat) : Nat → Nat → Nat → Prop
  | 0, s, x => sB T s n ≤ x
  | j + 1, s, x => ∃ P : Nat, P &&& s = P ∧ sB T P n ≤ x ∧ Aj T n j (s ^^^ P) x
def Asg (T : Nat → Nat) (n m s x : Nat) : Prop := ∃ a : Nat → Nat, (∀ q : Nat, a q < m) ∧ ∀ j : Nat, j < m → sumN (fun q => if s.testBit q && decide (a q = j) then T q else 0) n ≤ x
theorem mask (b : Nat → Bool) (n : Nat) : ∃ P : Nat, P < 2 ^ n ∧ ∀ q : Nat, P.testBit q = (decide (q < n) && b q) := by
  induction n with
  | zero => exact ⟨0, by decide, fun q => by rw [Nat.zero_testBit]; simp⟩
  | succ n ih =>
    obtain ⟨P, hP, h⟩ := ih
    by_cases c : b n = true
    · refine ⟨2 ^ n + P, by rw [Nat.pow_succ]; omega, fun q => ?_⟩
      rcases Nat.lt_trichotomy q n with e | e | e
      · rw [Nat.testBit_two_pow_add_gt e, h q, decide_eq_true e, decide_eq_true (show q < n + 1 by omega)]
      · subst e
        rw [Nat.testBit_two_pow_add_eq, Nat.testBit_lt_two_pow hP, c]
        simp
      · have e2 : 2 ^ n + P < 2 ^ q := Nat.lt_of_lt_of_le (show 2 ^ n + P < 2 ^ (n + 1) by rw [Nat.pow_succ]; omega) (Nat.pow_le_pow_right (by decide) e)
        rw [Nat.testBit_lt_two_pow e2, decide_eq_false (show ¬ q < n + 1 by omega)]
        rfl
    · refine ⟨P, by rw [Nat.pow_succ]; omega, fun q => ?_⟩
      rw [h q]
      by_cases e : q = n
      · subst e
        have c' : b q = false := by
          cases hb : b q with
          | true => exact absurd hb c
          | false => rfl
        rw [c']
        simp
      · by_cases e2 : q < n
        · rw [decide_eq_true e2, decide_eq_true (show q < n + 1 by omega)]
        · rw [decide_eq_false e2, decide_eq_false (show ¬ q < n + 1 by omega)]
theorem sub_bit {P s : Nat} (h : P &&& s = P) (q : Nat) : P.testBit q = true → s.testBit q = true := by
  intro hq
  rw [← h, Nat.testBit_and, Bool.and_eq_true] at hq
  exact hq.2
theorem Aj_asg {T : Nat → Nat} {n x : Nat} : ∀ j s : Nat, Aj T n j s x ↔ Asg T n (j + 1) s x := by
  intro j
  induction j with
  | zero =>
    intro s
    constructor
    · intro h
      refine ⟨fun _ => 0, fun _ => Nat.zero_lt_succ 0, fun i hi => ?_⟩
      obtain rfl : i = 0 := by omega
      refine Nat.le_trans (Nat.le_of_eq (sumN_cg fun q _ => ?_)) h
      simp
    · rintro ⟨a, a1, a2⟩
      refine Nat.le_trans (Nat.le_of_eq (sumN_cg fun q _ => ?_)) (a2 0 (by decide))
      have := a1 q
      have e : a q = 0 := by omega
      simp [e]
  | succ j ih =>
    intro s
    constructor
    · rintro ⟨P, h1, h2, h3⟩
      obtain ⟨a, a1, a2⟩ := (ih (s ^^^ P)).mp h3
      refine ⟨fun q => if P.testBit q then j + 1 else a q, fun q => ?_, fun i hi => ?_⟩
      · have := a1 q
        show (if P.testBit q then j + 1 else a q) < j + 1 + 1
        split <;> omega
      · by_cases e : i = j + 1
        · refine Nat.le_trans (Nat.le_of_eq (sumN_cg fun q _ => ?_)) h2
          show (if s.testBit q && decide ((if P.testBit q then j + 1 else a q) = i) then T q else 0) = if P.testBit q then T q else 0
          cases hp : P.testBit q with
          | true =>
            rw [sub_bit h1 q hp]
            simp [e]
          | false =>
            have := a1 q
            have ne : ¬ a q = i := by omega
            simp [ne]
        · refine Nat.le_trans (Nat.le_of_eq (sumN_cg fun q _ => ?_)) (a2 i (by omega))
          show (if s.testBit q && decide ((if P.testBit q then j + 1 else a q) = i) then T q else 0) = if (s ^^^ P).testBit q && decide (a q = i) then T q else 0
          rw [Nat.testBit_xor]
          cases hp : P.testBit q with
          | true =>
            rw [sub_bit h1 q hp]
            have ne : ¬ j + 1 = i := by omega
            simp [ne]
          | false => simp
    · rintro ⟨a, a1, a2⟩
      obtain ⟨P, hP, hb⟩ := mask (fun q => s.testBit q && decide (a q = j + 1)) n
      have h1 : P &&& s = P := Nat.eq_of_testBit_eq fun q => by
        rw [Nat.testBit_and, hb q]
        cases s.testBit q <;> simp
      refine ⟨P, h1, ?_, (ih _).mpr ⟨fun q => if a q < j + 1 then a q else 0, fun q => ?_, fun i hi => ?_⟩⟩
      · refine Nat.le_trans (Nat.le_of_eq (sumN_cg fun q hq => ?_)) (a2 (j + 1) (by omega))
        show (if P.testBit q then T q else 0) = if s.testBit q && decide (a q = j + 1) then T q else 0
        rw [hb q, decide_eq_true hq, Bool.true_and]
      · show (if a q < j + 1 then a q else 0) < j + 1
        split <;> omega
      · refine Nat.le_trans (Nat.le_of_eq (sumN_cg fun q hq => ?_)) (a2 i (by omega))
        show (if (s ^^^ P).testBit q && decide ((if a q < j + 1 then a q else 0) = i) then T q else 0) = if s.testBit q && decide (a q = i) then T q else 0
        rw [Nat.testBit_xor, hb q, decide_eq_true hq, Bool.true_and]
        have := a1 q
        by_cases e : a q = j + 1
        · have ne : ¬ a q = i := by omega
          cases s.testBit q <;> simp [e]
          omega
        · have lt : a q < j + 1 := by omega
          cases s.testBit q <;> simp [e, lt]
theorem Ach_asg {T : Nat → Nat} {m x : Nat} (hm : 0 < m) : ∀ (k p : Nat) (ld : Nat → Nat), (∀ j : Nat, j < m → ld j ≤ x) → (Ach T m k p ld x ↔ ∃ a : Nat → Nat, (∀ q : Nat, a q < m) ∧ ∀ j : Nat, j < m → ld j + sumN (fun i => if a (p + i) = j then T (p + i) else 0) k ≤ x) := by
  intro k
  induction k with
  | zero =>
    intro p ld hl
    exact ⟨fun _ => ⟨fun _ => 0, fun _ => hm, hl⟩, fun _ => trivial⟩
  | succ k ih =>
    intro p ld hl
    have hl' : ∀ j0 : Nat, ld j0 + T p ≤ x → ∀ j : Nat, j < m → uF ld j0 (ld j0 + T p) j ≤ x := fun j0 h0 j hj => by
      unfold uF
      have := hl j hj
      split <;> omega
    constructor
    · rintro ⟨j0, j1, j2, j3⟩
      obtain ⟨a, a1, a2⟩ := (ih (p + 1) _ (hl' j0 j2)).mp j3
      refine ⟨fun q => if q = p then j0 else a q, fun q => ?_, fun j hj => ?_⟩
      · show (if q = p then j0 else a q) < m
        split
        · exact j1
        · exact a1 q
      · rw [sumN_shift]
        have e := a2 j hj
        have es : sumN (fun i => if (fun q => if q = p then j0 else a q) (p + (i + 1)) = j then T (p + (i + 1)) else 0) k = sumN (fun i => if a (p + 1 + i) = j then T (p + 1 + i) else 0) k := sumN_cg fun i _ => by
          show (if (if p + (i + 1) = p then j0 else a (p + (i + 1))) = j then T (p + (i + 1)) else 0) = _
          rw [if_neg (show ¬ p + (i + 1) = p by omega), show p + (i + 1) = p + 1 + i by omega]
        have e0 : (if (fun q => if q = p then j0 else a q) (p + 0) = j then T (p + 0) else 0) = if j0 = j then T p else 0 := by
          show (if (if p + 0 = p then j0 else a (p + 0)) = j then T (p + 0) else 0) = _
          rw [if_pos (Nat.add_zero p)]
          rfl
        rw [es, e0]
        unfold uF at e
        by_cases c : j = j0
        · subst c
          rw [if_pos rfl] at e
          rw [if_pos rfl]
          omega
        · rw [if_neg c] at e
          rw [if_neg (fun q => c q.symm)]
          omega
    · rintro ⟨a, a1, a2⟩
      have sp := fun j hj => a2 j hj
      have ep := a2 (a p) (a1 p)
      rw [sumN_shift] at ep
      have e0 : (if a (p + 0) = a p then T (p + 0) else 0) = T p := if_pos rfl
      rw [e0] at ep
      refine ⟨a p, a1 p, by omega, (ih (p + 1) _ (hl' (a p) (by omega))).mpr ⟨a, a1, fun j hj => ?_⟩⟩
      have e := a2 j hj
      rw [sumN_shift] at e
      have es : sumN (fun i => if a (p + (i + 1)) = j then T (p + (i + 1)) else 0) k = sumN (fun i => if a (p + 1 + i) = j then T (p + 1 + i) else 0) k := sumN_cg fun i _ => by
        rw [show p + (i + 1) = p + 1 + i by omega]
      rw [es] at e
      unfold uF
      by_cases c : j = a p
      · subst c
        rw [if_pos (show a (p + 0) = a p from rfl)] at e
        rw [if_pos rfl]
        have : T (p + 0) = T p := rfl
        omega
      · rw [if_neg c]
        omega
/-- sets and search ask the same -/
theorem Aj_Ach {T : Nat → Nat} {n m x : Nat} (hm : 0 < m) : Aj T n (m - 1) (2 ^ n - 1) x ↔ Ach T m n 0 (fun _ => 0) x := by
  rw [Aj_asg, Ach_asg hm n 0 _ (fun _ _ => Nat.zero_le x), show m - 1 + 1 = m by omega]
  have es : ∀ (a : Nat → Nat) (j : Nat), sumN (fun q => if (2 ^ n - 1).testBit q && decide (a q = j) then T q else 0) n = sumN (fun i => if a (0 + i) = j then T (0 + i) else 0) n := fun a j => sumN_cg fun q hq => by
    rw [Nat.testBit_two_pow_sub_one, decide_eq_true hq, Nat.zero_add]
    simp
  unfold Asg
  constructor
  · rintro ⟨a, a1, a2⟩
    exact ⟨a, a1, fun j hj => by rw [Nat.zero_add, ← es]; exact a2 j hj⟩
  · rintro ⟨a, a1, a2⟩
    exact ⟨a, a1, fun j hj => by rw [es]; have := a2 j hj; rw [Nat.zero_add] at this; exact this⟩
theorem Ach_big {T : Nat → Nat} {m x : Nat} (hm : 0 < m) : ∀ (k p : Nat) (ld : Nat → Nat), (∀ j : Nat, j < m → ld j + sR T p k ≤ x) → Ach T m k p ld x := by
  intro k
  induction k with
  | zero => intro p ld _; trivial
  | succ k ih =>
    intro p ld h
    have e : sR T p (k + 1) = T p + sR T (p + 1) k := by
      unfold sR
      rw [sumN_shift]
      congr 1
      exact sumN_cg fun i _ => congrArg T (by omega)
    rw [e] at h
    have h0 := h 0 hm
    refine ⟨0, hm, by omega, ih (p + 1) _ (fun j hj => ?_)⟩
    have hj' := h j hj
    unfold uF
    split
    · omega
    · omega
theorem opt_eq {A : Nat → Prop} {c1 c2 U1 U2 : Nat} (h1 : ∀ x : Nat, c1 ≤ x ↔ U1 ≤ x ∨ (0 ≤ x ∧ A x)) (h2 : ∀ x : Nat, c2 ≤ x ↔ U2 ≤ x ∨ (0 ≤ x ∧ A x)) (hA : A 2880) (u1 : 2880 < U1) (u2 : 2880 < U2) : c1 = c2 ∧ c1 ≤ 2880 := by
  have b1 := (h1 2880).mpr (Or.inr ⟨Nat.zero_le _, hA⟩)
  have b2 := (h2 2880).mpr (Or.inr ⟨Nat.zero_le _, hA⟩)
  have a1 := (h1 c1).mp (Nat.le_refl c1)
  have a2 := (h2 c2).mp (Nat.le_refl c2)
  have A1 : A c1 := by
    rcases a1 with q | q
    · omega
    · exact q.2
  have A2 : A c2 := by
    rcases a2 with q | q
    · omega
    · exact q.2
  have x1 : c2 ≤ c1 := (h2 c1).mpr (Or.inr ⟨Nat.zero_le _, A1⟩)
  have x2 : c1 ≤ c2 := (h1 c2).mpr (Or.inr ⟨Nat.zero_le _, A2⟩)
  omega
