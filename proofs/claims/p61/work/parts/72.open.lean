/-! A NEW ORDER -/
def r_open (a : Nat → Int32) (n : Nat) (x1 x2 : Int32) : Nat → Int32 := up (up (up (up (up a (54 + 3 * n) (a 10)) (55 + 3 * n) x1) (56 + 3 * n) x2) 12 (a 12 + 1)) 10 (a 10 + 1)
theorem nI_k0 (n : Nat) : nI n + 0 = nI n := nI_add n 0
theorem nI_k2 (n : Nat) : nI n + 2 = nI (n + 2) := nI_add n 2
theorem nI_k3 (n : Nat) : nI n + 3 = nI (n + 3) := nI_add n 3
theorem ix_ord (n : Nat) : 54 + (3 * nI n) = nI (54 + 3 * n) := by
  rw [show (54 : Int32) = nI 54 from rfl, show (3 : Int32) = nI 3 from rfl, pk_mul, nI_add]
theorem ix_bal (n : Nat) : 14 + (4 * nI n) = nI (14 + 4 * n) := by
  rw [show (14 : Int32) = nI 14 from rfl, show (4 : Int32) = nI 4 from rfl, pk_mul, nI_add]
theorem w_full0 {k n : Nat} {σ : Mem} {Q : Int32 → Mem → Prop} {E : String → Mem → Prop} (hk : rd σ 0 k 1 = nI n) (hn : n < rowCap k) (h : Q 0 σ) : wX7_isFull k σ Q E := by
  have hc := rowCap_le k
  unfold wX7_isFull
  rw [hk]
  exact ⟨fun _ => h, fun q => absurd (nI_lt hn (by omega)) q⟩
theorem w_full1 {k n : Nat} {σ : Mem} {Q : Int32 → Mem → Prop} {E : String → Mem → Prop} (hk : rd σ 0 k 1 = nI n) (hn : rowCap k ≤ n) (hn2 : n < 2 ^ 31) (h : Q 1 σ) : wX7_isFull k σ Q E := by
  unfold wX7_isFull
  rw [hk]
  exact ⟨fun q => absurd q (nI_nlt hn hn2), fun _ => h⟩
