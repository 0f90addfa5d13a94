/-! SETS AS NUMBERS -/
/-- the sum over a set of the first n -/
def sB (T : Nat → Nat) (s n : Nat) : Nat := sumN (fun q => if s.testBit q then T q else 0) n
theorem sB_low {T : Nat → Nat} {s n : Nat} (h : s < 2 ^ n) : sB T s (n + 1) = sB T s n := by
  show sumN (fun q => if s.testBit q then T q else 0) n + (if s.testBit n then T n else 0) = _
  rw [Nat.testBit_lt_two_pow h]
  rfl
theorem sB_up {T : Nat → Nat} {s n : Nat} (h : s < 2 ^ n) : sB T (2 ^ n + s) (n + 1) = sB T s n + T n := by
  show sumN (fun q => if (2 ^ n + s).testBit q then T q else 0) n + (if (2 ^ n + s).testBit n then T n else 0) = _
  have e1 : (2 ^ n + s).testBit n = true := by
    rw [Nat.testBit_two_pow_add_eq, Nat.testBit_lt_two_pow h]
    rfl
  rw [e1, sumN_cg (p' := fun q => if s.testBit q then T q else 0) (fun q hq => by rw [Nat.testBit_two_pow_add_gt hq])]
  rfl
theorem sB_0 {T : Nat → Nat} {n : Nat} : sB T 0 n = 0 := by
  induction n with
  | zero => rfl
  | succ n ih =>
    rw [sB_low (Nat.two_pow_pos n)]
    exact ih
theorem sB_le {T : Nat → Nat} {s n M : Nat} (h : ∀ q : Nat, q < n → T q ≤ M) : sB T s n ≤ n * M := by
  induction n with
  | zero => exact Nat.zero_le _
  | succ n ih =>
    have a := ih fun q hq => h q (by omega)
    have b := h n (by omega)
    show sB T s n + (if s.testBit n then T n else 0) ≤ (n + 1) * M
    rw [Nat.succ_mul]
    split <;> omega
theorem shl1 : ∀ k : Nat, k < 11 → (1 : Int32) <<< (nI k &&& 31) = nI (2 ^ k) := by decide +kernel
theorem shm : ∀ k : Nat, k < 11 → ((nI k &&& 31).toBitVec.smod 32).toNat = k := by decide +kernel
/-- the reference's test of a bit -/
theorem bitR {s k : Nat} (hs : s < 2 ^ 31) (hk : k < 11) : (nI s >>> (nI k &&& 31)) &&& 1 = 1 ↔ s.testBit k = true := by
  rw [pk_shrN hs _ k (shm k hk), pk_andN (k := 1) (by
    have := Nat.div_le_self s (2 ^ k)
    omega) (by decide), Nat.testBit_eq_decide_div_mod_eq, decide_eq_true_iff, show (1 : Int32) = nI 1 from rfl, nI_eq (by omega) (by omega)]
theorem pk_andNN {a b : Nat} (ha : a < 2 ^ 32) (hb : b < 2 ^ 32) : nI a &&& nI b = nI (a &&& b) := by
  refine Int32.toBitVec_inj.mp ?_
  rw [Int32.toBitVec_and]
  refine BitVec.eq_of_toNat_eq ?_
  rw [BitVec.toNat_and, pk_tn ha, pk_tn hb, pk_tn (Nat.lt_of_le_of_lt Nat.and_le_left ha)]
/-- the class's test of a bit -/
theorem bitC {s k : Nat} (hs : s < 2 ^ 31) (hk : k < 11) : nI s &&& ((1 : Int32) <<< (nI k &&& 31)) = 0 ↔ s.testBit k = false := by
  have hk2 : 2 ^ k < 2 ^ 32 := Nat.pow_lt_pow_right (by decide) (by omega)
  have e : s &&& 2 ^ k < 2 ^ 31 := Nat.lt_of_le_of_lt Nat.and_le_left hs
  rw [shl1 k hk, pk_andNN (by omega) hk2, ← nI_0, nI_eq e (by decide)]
  constructor
  · intro h
    have h2 := congrArg (fun z => z.testBit k) h
    simp only [Nat.testBit_and, Nat.testBit_two_pow_self, Bool.and_true, Nat.zero_testBit] at h2
    exact h2
  · intro h
    refine Nat.eq_of_testBit_eq fun i => ?_
    rw [Nat.testBit_and, Nat.zero_testBit]
    by_cases c : k = i
    · subst c
      rw [h, Bool.false_and]
    · rw [Nat.testBit_two_pow_of_ne c, Bool.and_false]
