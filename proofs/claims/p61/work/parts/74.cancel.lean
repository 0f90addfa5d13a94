/-! AN ORDER CANCELLED -/
theorem clo_lt {a : Nat → Int32} {F M Z s : Nat} (h : s < F) (hF : F ≤ Z - M) : clo a F M Z s = a s := by
  unfold clo
  rw [if_neg (by omega), if_neg (by omega)]
theorem clo_ge {a : Nat → Int32} {F M Z s : Nat} (h : Z ≤ s) : clo a F M Z s = a s := by
  unfold clo
  rw [if_neg (by omega), if_neg (by omega)]
theorem clo_in {a : Nat → Int32} {F M Z s : Nat} (h : F ≤ s) (h2 : s < Z - M) : clo a F M Z s = a (s + M) := by
  unfold clo
  rw [if_pos ⟨h, h2⟩]
def r_canc (a : Nat → Int32) (p n : Nat) : Nat → Int32 := up (clo a (54 + 3 * p) 3 78) 12 (nI n)
/-- what is left behind a place -/
def rm (p q : Nat) : Nat := if q < p then q else q + 1
theorem canc_o {a : Nat → Int32} {p n : Nat} (hp : p < 8) {s : Nat} (h : s ≠ 12) (h2 : s < 54 ∨ 78 ≤ s) : r_canc a p n s = a s := by
  unfold r_canc
  rw [up_ne h]
  rcases h2 with c | c
  · exact clo_lt (by omega) (by omega)
  · exact clo_ge c
theorem canc_q {a : Nat → Int32} {p n q d : Nat} (hp : p < n + 1) (hn : n + 1 ≤ 8) (hq : q < n) (hd : d < 3) : r_canc a p n (54 + d + 3 * q) = a (54 + d + 3 * rm p q) := by
  unfold r_canc
  rw [up_ne (by omega)]
  unfold rm
  by_cases c : q < p
  · rw [if_pos c]
    exact clo_lt (by omega) (by omega)
  · rw [if_neg c, clo_in (by omega) (by omega)]
    exact congrArg a (by omega)
theorem rm_lt {p q n : Nat} (hp : p < n + 1) (hq : q < n) : rm p q < n + 1 := by
  unfold rm
  split <;> omega
theorem gO_canc {a : Nat → Int32} {p n q i : Nat} (hp : p < n + 1) (hn : n + 1 ≤ 8) (hq : q < n) : gO (r_canc a p n) i q = gO a i (rm p q) := by
  match i with
  | 0 => exact canc_q (d := 0) hp hn hq (by decide)
  | 1 => exact canc_q (d := 1) hp hn hq (by decide)
  | 2 => exact canc_q (d := 2) hp hn hq (by decide)
  | i + 3 =>
    have h1 : r_canc a p n (55 + 3 * q) = a (55 + 3 * rm p q) := canc_q (d := 1) hp hn hq (by decide)
    have h2 : r_canc a p n (56 + 3 * q) = a (56 + 3 * rm p q) := canc_q (d := 2) hp hn hq (by decide)
    show r_canc a p n (55 + 3 * q) * r_canc a p n (56 + 3 * q) = a (55 + 3 * rm p q) * a (56 + 3 * rm p q)
    rw [h1, h2]
theorem Fits.canc {t nB n nP p : Nat} {a : Nat → Int32} (hp : p < n + 1) (F : Fits t nB (n + 1) nP a) : Fits t nB n nP (r_canc a p n) := by
  obtain ⟨⟨f1, f2, f3, f4, f5, f6⟩, g1, g2, g3, g4, g5, g6, ⟨z, p1, p2, p3⟩, g8⟩ := F
  have o : ∀ s : Nat, s ≠ 12 → (s < 54 ∨ 78 ≤ s) → r_canc a p n s = a s := fun s h h2 => canc_o (by omega) h h2
  refine ⟨⟨f1, by omega, f3, ?_, up_eq _ _ _, ?_⟩, ?_, ?_, ?_, ?_, fun q hq => ?_, fun q hq => ?_, ⟨z, fun q hq => ?_, p2, ?_⟩, ?_⟩
  · rw [o 11 (by omega) (by omega)]; exact f4
  · rw [o 13 (by omega) (by omega)]; exact f6
  · rw [o 3 (by omega) (by omega)]; exact g1
  · rw [o 1 (by omega) (by omega)]; exact g2
  · rw [o 9 (by omega) (by omega)]; exact g3
  · rw [o 10 (by omega) (by omega)]; exact g4
  · rw [o (14 + 4 * q) (by omega) (by omega), o (15 + 4 * q) (by omega) (by omega), o (16 + 4 * q) (by omega) (by omega), o (17 + 4 * q) (by omega) (by omega)]
    exact g5 q hq
  · have h0 : r_canc a p n (54 + 3 * q) = a (54 + 3 * rm p q) := canc_q (d := 0) hp f2 hq (by decide)
    have h1 : r_canc a p n (55 + 3 * q) = a (55 + 3 * rm p q) := canc_q (d := 1) hp f2 hq (by decide)
    have h2 : r_canc a p n (56 + 3 * q) = a (56 + 3 * rm p q) := canc_q (d := 2) hp f2 hq (by decide)
    rw [h0, h1, h2]
    exact g6 _ (rm_lt hp hq)
  · rw [o (78 + q) (by omega) (by omega)]; exact p1 q hq
  · rw [o 6 (by omega) (by omega), o 8 (by omega) (by omega), o 7 (by omega) (by omega)]; exact p3
  · rw [o 0 (by omega) (by omega), o 4 (by omega) (by omega), o 5 (by omega) (by omega)]; exact g8
/-- the class takes an order out -/
theorem w_close {n p : Nat} {x : Int32} {σ : Mem} {Q : Int32 → Mem → Prop} {E : String → Mem → Prop} (hx : x = nI p) (hp : p < n + 1) (hn : n + 1 ≤ 8) (hs : ∀ i : Nat, i < 4 → rd σ 0 (5 + i) 1 = nI (n + 1))
    (h : ∀ τ : Mem, (∀ f k s : Nat, ¬ (f ≤ 1 ∧ 5 ≤ k ∧ k < 9) → rd τ f k s = rd σ f k s) → τ.2 = σ.2 → (∀ i : Nat, i < 4 → rd τ 0 (5 + i) 1 = nI n ∧ ∀ q : Nat, q < n → rd τ 1 (5 + i) q = rd σ 1 (5 + i) (rm p q)) → Q (nI n) τ) : wX5_close 0 x σ Q E := by
  subst hx
  unfold wX5_close
  refine PM.rem (b := 5) (i := 0) (n := n) (g := fun i q => rd σ 1 (5 + i) (rm p q)) hn hp (hs 0 (by decide)) (fun q hq => rfl) (PM.rf σ 5 _ _) (fun t0 P0 => ?_)
  refine PM.rem (b := 5) (i := 1) (n := n) (g := fun i q => rd σ 1 (5 + i) (rm p q)) hn hp (hs 1 (by decide)) (fun q hq => rfl) P0 (fun t1 P1 => ?_)
  refine PM.rem (b := 5) (i := 2) (n := n) (g := fun i q => rd σ 1 (5 + i) (rm p q)) hn hp (hs 2 (by decide)) (fun q hq => rfl) P1 (fun t2 P2 => ?_)
  refine PM.rem (b := 5) (i := 3) (n := n) (g := fun i q => rd σ 1 (5 + i) (rm p q)) hn hp (hs 3 (by decide)) (fun q hq => rfl) P2 (fun t3 P3 => ?_)
  show Q (rd t3 0 5 1) t3
  rw [show rd t3 0 5 1 = nI n from (P3.2.1 0 (by decide)).1]
  exact h t3 P3.1 P3.2.2 P3.2.1
