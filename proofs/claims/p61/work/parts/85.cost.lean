/-! THE COST OF SPLICING, AS A NUMBER -/
def mnF (U : Nat) (F : Nat → Nat) : Nat → Nat
  | 0 => U
  | d + 1 => if F d < mnF U F d then F d else mnF U F d
theorem mnF_cg {U : Nat} {F G : Nat → Nat} {d : Nat} (h : ∀ m : Nat, m < d → F m = G m) : mnF U F d = mnF U G d := by
  induction d with
  | zero => rfl
  | succ d ih =>
    show (if F d < mnF U F d then F d else mnF U F d) = if G d < mnF U G d then G d else mnF U G d
    rw [ih fun m hm => h m (by omega), h d (by omega)]
theorem mnF_le {U : Nat} {F : Nat → Nat} {d m : Nat} (h : m < d) : mnF U F d ≤ F m := by
  induction d with
  | zero => exact absurd h (Nat.not_lt_zero m)
  | succ d ih =>
    show (if F d < mnF U F d then F d else mnF U F d) ≤ F m
    by_cases c : m = d
    · subst c
      split <;> omega
    · have := ih (by omega)
      split <;> omega
theorem mnF_leU {U : Nat} {F : Nat → Nat} {d : Nat} : mnF U F d ≤ U := by
  induction d with
  | zero => exact Nat.le_refl U
  | succ d ih =>
    show (if F d < mnF U F d then F d else mnF U F d) ≤ U
    split <;> omega
theorem mnF_U {U V : Nat} {F : Nat → Nat} {d : Nat} (hd : 0 < d) (hU : F 0 ≤ U) (hV : F 0 ≤ V) : mnF U F d = mnF V F d := by
  induction d with
  | zero => exact absurd hd (Nat.lt_irrefl 0)
  | succ d ih =>
    show (if F d < mnF U F d then F d else mnF U F d) = if F d < mnF V F d then F d else mnF V F d
    by_cases c : d = 0
    · subst c
      show (if F 0 < U then F 0 else U) = if F 0 < V then F 0 else V
      split <;> split <;> omega
    · rw [ih (by omega)]
theorem mnF_add {U w : Nat} {F : Nat → Nat} {d : Nat} : mnF (U + w) (fun m => F m + w) d = mnF U F d + w := by
  induction d with
  | zero => rfl
  | succ d ih =>
    show (if F d + w < mnF (U + w) (fun m => F m + w) d then F d + w else mnF (U + w) (fun m => F m + w) d) = (if F d < mnF U F d then F d else mnF U F d) + w
    rw [ih]
    split <;> split <;> omega
/-- k pieces from f on -/
def sR (p : Nat → Nat) (f k : Nat) : Nat := sumN (fun q => p (f + q)) k
theorem sR_cat (p : Nat → Nat) (f k : Nat) : sumN p (f + k) = sumN p f + sR p f k := by
  induction k with
  | zero => rfl
  | succ k ih =>
    show sumN p (f + k) + p (f + k) = sumN p f + (sR p f k + p (f + k))
    rw [ih, Nat.add_assoc]
theorem sumN_mono {p : Nat → Nat} {a b : Nat} (h : a ≤ b) : sumN p a ≤ sumN p b := by
  obtain ⟨k, rfl⟩ : ∃ k, b = a + k := ⟨b - a, by omega⟩
  rw [sR_cat]
  exact Nat.le_add_right _ _
theorem sR_le {p : Nat → Nat} {f k n : Nat} (h : f + k ≤ n) : sR p f k ≤ sumN p n := by
  have h1 := sumN_mono (p := p) h
  rw [sR_cat] at h1
  omega
theorem sR_ge {p : Nat → Nat} {f k n : Nat} (h : f + k ≤ n) (h1 : ∀ q : Nat, q < n → 1 ≤ p q) : k ≤ sR p f k := by
  induction k with
  | zero => exact Nat.zero_le _
  | succ k ih =>
    show k + 1 ≤ sR p f k + p (f + k)
    have a := ih (by omega)
    have b := h1 (f + k) (by omega)
    omega
/-- the minutes of the last splice of the pieces f .. f + d -/
def wC (p : Nat → Nat) (f d : Nat) : Nat := sR p f (d + 1) - (d - 1)
def cs (p : Nat → Nat) : Nat → Nat → Nat → Nat
  | 0, _, _ => 0
  | k + 1, d, f => if d = 0 then 0 else mnF 2147483647 (fun m => cs p k m f + cs p k (d - 1 - m) (f + m + 1)) d + wC p f d
theorem cs_0 (p : Nat → Nat) (k f : Nat) : cs p k 0 f = 0 := by
  cases k with
  | zero => rfl
  | succ k => exact if_pos rfl
theorem cs_fuel (p : Nat → Nat) : ∀ k k' d f : Nat, d ≤ k → d ≤ k' → cs p k d f = cs p k' d f := by
  intro k
  induction k with
  | zero =>
    intro k' d f h _
    obtain rfl : d = 0 := by omega
    rw [cs_0, cs_0]
  | succ k ih =>
    intro k' d f h h'
    by_cases c : d = 0
    · subst c
      rw [cs_0, cs_0]
    · obtain ⟨k'', rfl⟩ : ∃ k'', k' = k'' + 1 := ⟨k' - 1, by omega⟩
      show (if d = 0 then 0 else mnF 2147483647 (fun m => cs p k m f + cs p k (d - 1 - m) (f + m + 1)) d + wC p f d) = if d = 0 then 0 else mnF 2147483647 (fun m => cs p k'' m f + cs p k'' (d - 1 - m) (f + m + 1)) d + wC p f d
      rw [if_neg c, if_neg c]
      congr 1
      refine mnF_cg fun m hm => ?_
      show cs p k m f + cs p k (d - 1 - m) (f + m + 1) = cs p k'' m f + cs p k'' (d - 1 - m) (f + m + 1)
      rw [ih k'' m f (by omega) (by omega), ih k'' (d - 1 - m) (f + m + 1) (by omega) (by omega)]
def cC (p : Nat → Nat) (d f : Nat) : Nat := cs p 13 d f
/-- what the last splice is put on: the ways to divide -/
def cF (p : Nat → Nat) (d f : Nat) (m : Nat) : Nat := cC p m f + cC p (d - 1 - m) (f + m + 1)
theorem cC_0 (p : Nat → Nat) (f : Nat) : cC p 0 f = 0 := cs_0 p 13 f
theorem cC_eq (p : Nat → Nat) {d f : Nat} (h0 : 0 < d) (h : d ≤ 12) : cC p d f = mnF 2147483647 (cF p d f) d + wC p f d := by
  show (if d = 0 then 0 else mnF 2147483647 (fun m => cs p 12 m f + cs p 12 (d - 1 - m) (f + m + 1)) d + wC p f d) = _
  rw [if_neg (by omega)]
  congr 1
  refine mnF_cg fun m hm => ?_
  show cs p 12 m f + cs p 12 (d - 1 - m) (f + m + 1) = cs p 13 m f + cs p 13 (d - 1 - m) (f + m + 1)
  rw [cs_fuel p 12 13 m f (by omega) (by omega), cs_fuel p 12 13 (d - 1 - m) (f + m + 1) (by omega) (by omega)]
theorem cC_le (p : Nat → Nat) (n : Nat) (hn : n ≤ 12) : ∀ d f : Nat, f + d < n → cC p d f ≤ d * sumN p n := by
  intro d
  induction d with
  | zero =>
    intro f _
    rw [cC_0]
    exact Nat.zero_le _
  | succ d ih =>
    intro f h
    rw [cC_eq p (by omega) (by omega), Nat.succ_mul]
    have h1 : mnF 2147483647 (cF p (d + 1) f) (d + 1) ≤ cF p (d + 1) f 0 := mnF_le (by omega)
    have h2 : cF p (d + 1) f 0 = cC p d (f + 1) := by
      show cC p 0 f + cC p (d + 1 - 1 - 0) (f + 0 + 1) = _
      rw [cC_0, Nat.zero_add]
      rfl
    have h3 := ih (f + 1) (by omega)
    have h4 : wC p f (d + 1) ≤ sumN p n := Nat.le_trans (Nat.sub_le _ _) (sR_le (by omega))
    omega
theorem cC_b (p : Nat → Nat) (n : Nat) (hn : n ≤ 12) (hs : sumN p n ≤ 20480) {d f : Nat} (h : f + d < n) : cC p d f ≤ 225280 := by
  have h1 := cC_le p n hn d f h
  have h2 : d * sumN p n ≤ 11 * 20480 := Nat.mul_le_mul (by omega) hs
  omega
