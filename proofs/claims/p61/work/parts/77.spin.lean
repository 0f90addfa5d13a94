/-! AN ORDER SPUN -/
/-- piece number v of l kilometres that break after every d -/
def pv (l d v : Nat) : Nat := if l - v * d < d then l - v * d else d
theorem sum_pv (l d v : Nat) : sumN (pv l d) v = if v * d < l then v * d else l := by
  induction v with
  | zero =>
    show 0 = _
    rw [Nat.zero_mul]
    split <;> omega
  | succ v ih =>
    show sumN (pv l d) v + pv l d v = _
    rw [ih, Nat.succ_mul]
    unfold pv
    generalize v * d = y
    split <;> split <;> split <;> omega
theorem pcs_lo {l w : Nat} (v : Nat) (h : v < pcs l w) : v * (3 + w) < l := by
  unfold pcs at h
  have h1 : (v + 1) * (3 + w) ≤ l + (3 + w) - 1 := (Nat.le_div_iff_mul_le (by omega)).mp h
  rw [Nat.succ_mul] at h1
  omega
theorem pcs_hi (l w : Nat) : l ≤ pcs l w * (3 + w) := by
  unfold pcs
  have h1 := Nat.lt_div_mul_add (a := l + (3 + w) - 1) (b := 3 + w) (by omega)
  omega
/-- the reference's row after v pieces -/
def r_sp1 (a : Nat → Int32) (l w : Nat) : Nat → Int32 := up (up (up a 1 (a 1 - nI l)) 2 (a 2 + nI (l * w))) 6 (a 6 + nI l)
def r_sp2 (a : Nat → Int32) (l w nP v : Nat) : Nat → Int32 := fun s => if 78 + nP ≤ s ∧ s < 78 + nP + v then nI (pv l (3 + w) (s - (78 + nP))) else if s = 13 then nI (nP + v) else r_sp1 a l w s
def r_spin (a : Nat → Int32) (l w nP p n : Nat) : Nat → Int32 := up (clo (r_sp2 a l w nP (pcs l w)) (54 + 3 * p) 3 78) 12 (nI n)
theorem spin_canc (a : Nat → Int32) (l w nP p n : Nat) : r_spin a l w nP p n = r_canc (r_sp2 a l w nP (pcs l w)) p n := rfl
theorem sp2_o {a : Nat → Int32} {l w nP v s : Nat} (h : s < 78) (h13 : s ≠ 13) (h1 : s ≠ 1) (h2 : s ≠ 2) (h6 : s ≠ 6) : r_sp2 a l w nP v s = a s := by
  unfold r_sp2 r_sp1
  rw [if_neg (by omega), if_neg h13, up_ne h6, up_ne h2, up_ne h1]
theorem sp2_p {a : Nat → Int32} {l w nP v q : Nat} (h : q < nP) : r_sp2 a l w nP v (78 + q) = a (78 + q) := by
  unfold r_sp2 r_sp1
  rw [if_neg (by omega), if_neg (by omega), up_ne (by omega), up_ne (by omega), up_ne (by omega)]
theorem sp2_n {a : Nat → Int32} {l w nP v u : Nat} (h : u < v) : r_sp2 a l w nP v (78 + (nP + u)) = nI (pv l (3 + w) u) := by
  unfold r_sp2
  rw [if_pos (by omega)]
  congr 2
  omega
theorem sp2_13 {a : Nat → Int32} {l w nP v : Nat} : r_sp2 a l w nP v 13 = nI (nP + v) := by
  unfold r_sp2
  rw [if_neg (by omega), if_pos rfl]
theorem sp2_1 {a : Nat → Int32} {l w nP v : Nat} : r_sp2 a l w nP v 1 = a 1 - nI l := by
  unfold r_sp2 r_sp1
  rw [if_neg (by omega), if_neg (by omega), up_ne (by omega), up_ne (by omega), up_eq]
theorem sp2_2 {a : Nat → Int32} {l w nP v : Nat} : r_sp2 a l w nP v 2 = a 2 + nI (l * w) := by
  unfold r_sp2 r_sp1
  rw [if_neg (by omega), if_neg (by omega), up_ne (by omega), up_eq]
theorem sp2_6 {a : Nat → Int32} {l w nP v : Nat} : r_sp2 a l w nP v 6 = a 6 + nI l := by
  unfold r_sp2 r_sp1
  rw [if_neg (by omega), if_neg (by omega), up_eq]
theorem sumN_cat (p f : Nat → Nat) (n k : Nat) : sumN (fun q => if q < n then p q else f (q - n)) (n + k) = sumN p n + sumN f k := by
  induction k with
  | zero => exact sumN_cg fun q hq => if_pos hq
  | succ k ih =>
    show sumN (fun q => if q < n then p q else f (q - n)) (n + k) + (if n + k < n then p (n + k) else f (n + k - n)) = sumN p n + (sumN f k + f k)
    rw [ih, if_neg (by omega), Nat.add_sub_cancel_left, Nat.add_assoc]
theorem Fits.spin {t nB nO nP l w r : Nat} {a : Nat → Int32} (F : Fits t nB nO nP a) (hl : l ≤ 40) (hr : a 1 = nI r) (hr2 : r ≤ 999) (hlr : l ≤ r) (hk : nP + pcs l w ≤ 12) : Fits (t + 1) nB nO (nP + pcs l w) (r_sp2 a l w nP (pcs l w)) := by
  obtain ⟨⟨f1, f2, f3, f4, f5, f6⟩, g1, g2, g3, g4, g5, g6, ⟨p, p1, p2, p3⟩, g8⟩ := F
  have o : ∀ s : Nat, s < 78 → s ≠ 13 → s ≠ 1 → s ≠ 2 → s ≠ 6 → r_sp2 a l w nP (pcs l w) s = a s := fun s h h13 h1 h2 h6 => sp2_o h h13 h1 h2 h6
  have hs : sumN (pv l (3 + w)) (pcs l w) = l := by
    rw [sum_pv, if_neg (by have := pcs_hi l w; omega)]
  refine ⟨⟨f1, f2, hk, ?_, ?_, sp2_13⟩, ?_, ⟨r - l, by omega, ?_⟩, ?_, ?_, fun q hq => ?_, fun q hq => ?_, ⟨fun q => if q < nP then p q else pv l (3 + w) (q - nP), fun q hq => ?_, ?_, ?_⟩, ?_⟩
  · rw [o 11 (by omega) (by omega) (by omega) (by omega) (by omega)]; exact f4
  · rw [o 12 (by omega) (by omega) (by omega) (by omega) (by omega)]; exact f5
  · rw [o 3 (by omega) (by omega) (by omega) (by omega) (by omega)]; exact g1
  · rw [sp2_1, hr, pk_sub hlr]
  · rw [o 9 (by omega) (by omega) (by omega) (by omega) (by omega)]
    obtain ⟨i, hi, e⟩ := g3
    exact ⟨i, by omega, e⟩
  · rw [o 10 (by omega) (by omega) (by omega) (by omega) (by omega)]
    obtain ⟨i, hi, e⟩ := g4
    exact ⟨i, by omega, e⟩
  · rw [o (14 + 4 * q) (by omega) (by omega) (by omega) (by omega) (by omega), o (15 + 4 * q) (by omega) (by omega) (by omega) (by omega) (by omega), o (16 + 4 * q) (by omega) (by omega) (by omega) (by omega) (by omega), o (17 + 4 * q) (by omega) (by omega) (by omega) (by omega) (by omega)]
    obtain ⟨⟨i, hi, e⟩, z⟩ := g5 q hq
    exact ⟨⟨i, by omega, e⟩, z⟩
  · rw [o (54 + 3 * q) (by omega) (by omega) (by omega) (by omega) (by omega), o (55 + 3 * q) (by omega) (by omega) (by omega) (by omega) (by omega), o (56 + 3 * q) (by omega) (by omega) (by omega) (by omega) (by omega)]
    obtain ⟨⟨i, hi, e⟩, z⟩ := g6 q hq
    exact ⟨⟨i, by omega, e⟩, z⟩
  · by_cases c : q < nP
    · simp only [if_pos c]
      rw [sp2_p c]
      exact p1 q c
    · simp only [if_neg c]
      obtain ⟨u, rfl⟩ : ∃ u, q = nP + u := ⟨q - nP, by omega⟩
      rw [sp2_n (by omega), Nat.add_sub_cancel_left]
      refine ⟨?_, rfl⟩
      have := pcs_lo (l := l) (w := w) u (by omega)
      unfold pv
      split <;> omega
  · rw [sumN_cat, hs]
    omega
  · rw [sumN_cat, hs, sp2_6, o 8 (by omega) (by omega) (by omega) (by omega) (by omega), o 7 (by omega) (by omega) (by omega) (by omega) (by omega), ← nI_add, ← p3]
    grind
  · rw [o 0 (by omega) (by omega) (by omega) (by omega) (by omega), o 4 (by omega) (by omega) (by omega) (by omega) (by omega), o 5 (by omega) (by omega) (by omega) (by omega) (by omega)]
    exact g8
/-- the class's pieces -/
theorem w_spinLoop {nP l w k p : Nat} {σ : Mem} {Q : Int32 → Mem → Prop} {E : String → Mem → Prop} {X : Int32 → Int32 → Int32 → Mem → Prop} (hl : l ≤ 40) (hw : w ≤ 9) (hk : k = pcs l w) (hP : nP + k ≤ 12) (h9 : rd σ 0 9 1 = nI nP)
    (h : ∀ τ : Mem, (∀ f k' s : Nat, ¬ (f ≤ 1 ∧ k' = 9) → rd τ f k' s = rd σ f k' s) → τ.2 = σ.2 → rd τ 0 9 1 = nI (nP + k) → (∀ q : Nat, q < nP → rd τ 1 9 q = rd σ 1 9 q) → (∀ u : Nat, u < k → rd τ 1 9 (nP + u) = nI (pv l (3 + w) u)) → X (nI p) (nI l) (nI k) τ) :
    ∃ m : Nat, wX10_spinAt_34 0 Q E X m (nI p) (nI l) (nI (3 + w)) (nI k) 0 σ := by
  have key : ∀ (m v : Nat) (σ' : Mem), v + m = k → (∀ f k' s : Nat, ¬ (f ≤ 1 ∧ k' = 9) → rd σ' f k' s = rd σ f k' s) → σ'.2 = σ.2 → rd σ' 0 9 1 = nI (nP + v) → (∀ q : Nat, q < nP → rd σ' 1 9 q = rd σ 1 9 q) → (∀ u : Nat, u < v → rd σ' 1 9 (nP + u) = nI (pv l (3 + w) u)) → wX10_spinAt_34 0 Q E X (m + 1) (nI p) (nI l) (nI (3 + w)) (nI k) (nI v) σ' := by
    intro m
    induction m with
    | zero =>
      intro v σ' hv p1 p2 p3 p4 p5
      obtain rfl : v = k := by omega
      exact ⟨fun _ => h σ' p1 p2 p3 p4 p5, fun r => absurd (nI_le (Nat.le_refl _) (by omega)) r⟩
    | succ m ih =>
      intro v σ' hv p1 p2 p3 p4 p5
      have hlo := pcs_lo (l := l) (w := w) v (by omega)
      have ev : (if nI l - nI v * nI (3 + w) < nI (3 + w) then nI l - nI v * nI (3 + w) else nI (3 + w)) = nI (pv l (3 + w) v) := by
        rw [pk_mul, pk_sub (by omega)]
        unfold pv
        by_cases c : l - v * (3 + w) < 3 + w
        · rw [if_pos c, if_pos (nI_lt c (by omega))]
        · rw [if_neg c, if_neg (nI_nlt (by omega) (by omega))]
      refine ⟨fun r => absurd r (nI_ge (by omega) (by omega)), fun _ => ?_⟩
      rw [ev]
      refine w_add (k := 9) (n := nP + v) p3 (show nP + v < 12 by omega) (fun τ t1 t2 t3 t4 x hx => ?_)
      rw [nI_1] at hx
      subst hx
      refine ih (v + 1) τ (by omega) (fun f k' s n => (t1 f k' s n).trans (p1 f k' s n)) (t2.trans p2) t3 (fun q hq => ?_) (fun u hu => ?_)
      · rw [t4, if_neg (by omega)]
        exact p4 q hq
      · rw [t4]
        by_cases c : u = v
        · subst c
          rw [if_pos rfl]
        · rw [if_neg (by omega)]
          exact p5 u (by omega)
  exact ⟨k + 1, key k 0 σ (by omega) (fun _ _ _ _ => rfl) rfl h9 (fun _ _ => rfl) (fun u hu => absurd hu (Nat.not_lt_zero u))⟩
