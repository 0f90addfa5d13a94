/-! A BLEND MADE -/
def r_rem (a : Nat → Int32) (k n : Nat) : Nat → Int32 := up (clo a (14 + 4 * k) 4 54) 11 (nI n)
theorem rem_o {a : Nat → Int32} {k n : Nat} (hk : k < 10) {s : Nat} (h : s ≠ 11) (h2 : s < 14 ∨ 54 ≤ s) : r_rem a k n s = a s := by
  unfold r_rem
  rw [up_ne h]
  rcases h2 with c | c
  · exact clo_lt (by omega) (by omega)
  · exact clo_ge c
theorem rem_q {a : Nat → Int32} {k n q d : Nat} (hk : k < n + 1) (hn : n + 1 ≤ 10) (hq : q < n) (hd : d < 4) : r_rem a k n (14 + d + 4 * q) = a (14 + d + 4 * rm k q) := by
  unfold r_rem
  rw [up_ne (by omega)]
  unfold rm
  by_cases c : q < k
  · rw [if_pos c]
    exact clo_lt (by omega) (by omega)
  · rw [if_neg c, clo_in (by omega) (by omega)]
    exact congrArg a (by omega)
theorem gB_rem {a : Nat → Int32} {k n q i : Nat} (hk : k < n + 1) (hn : n + 1 ≤ 10) (hq : q < n) : gB (r_rem a k n) i q = gB a i (rm k q) := by
  match i with
  | 0 => exact rem_q (d := 0) hk hn hq (by decide)
  | 1 => exact rem_q (d := 1) hk hn hq (by decide)
  | 2 => exact rem_q (d := 2) hk hn hq (by decide)
  | 3 => exact rem_q (d := 3) hk hn hq (by decide)
  | i + 4 =>
    have h1 : r_rem a k n (15 + 4 * q) = a (15 + 4 * rm k q) := rem_q (d := 1) hk hn hq (by decide)
    have h2 : r_rem a k n (17 + 4 * q) = a (17 + 4 * rm k q) := rem_q (d := 3) hk hn hq (by decide)
    show r_rem a k n (15 + 4 * q) * r_rem a k n (17 + 4 * q) = a (15 + 4 * rm k q) * a (17 + 4 * rm k q)
    rw [h1, h2]
theorem Fits.rem {t n nO nP k : Nat} {a : Nat → Int32} (hk : k < n + 1) (F : Fits t (n + 1) nO nP a) : Fits t n nO nP (r_rem a k n) := by
  obtain ⟨⟨f1, f2, f3, f4, f5, f6⟩, g1, g2, g3, g4, g5, g6, ⟨z, p1, p2, p3⟩, g8⟩ := F
  have o : ∀ s : Nat, s ≠ 11 → (s < 14 ∨ 54 ≤ s) → r_rem a k n s = a s := fun s h h2 => rem_o (by omega) h h2
  refine ⟨⟨by omega, f2, f3, up_eq _ _ _, ?_, ?_⟩, ?_, ?_, ?_, ?_, fun q hq => ?_, fun q hq => ?_, ⟨z, fun q hq => ?_, p2, ?_⟩, ?_⟩
  · rw [o 12 (by omega) (by omega)]; exact f5
  · rw [o 13 (by omega) (by omega)]; exact f6
  · rw [o 3 (by omega) (by omega)]; exact g1
  · rw [o 1 (by omega) (by omega)]; exact g2
  · rw [o 9 (by omega) (by omega)]; exact g3
  · rw [o 10 (by omega) (by omega)]; exact g4
  · have h0 : r_rem a k n (14 + 4 * q) = a (14 + 4 * rm k q) := rem_q (d := 0) hk f1 hq (by decide)
    have h1 : r_rem a k n (15 + 4 * q) = a (15 + 4 * rm k q) := rem_q (d := 1) hk f1 hq (by decide)
    have h2 : r_rem a k n (16 + 4 * q) = a (16 + 4 * rm k q) := rem_q (d := 2) hk f1 hq (by decide)
    have h3 : r_rem a k n (17 + 4 * q) = a (17 + 4 * rm k q) := rem_q (d := 3) hk f1 hq (by decide)
    rw [h0, h1, h2, h3]
    exact g5 _ (rm_lt hk hq)
  · rw [o (54 + 3 * q) (by omega) (by omega), o (55 + 3 * q) (by omega) (by omega), o (56 + 3 * q) (by omega) (by omega)]
    exact g6 q hq
  · rw [o (78 + q) (by omega) (by omega)]; exact p1 q hq
  · rw [o 6 (by omega) (by omega), o 8 (by omega) (by omega), o 7 (by omega) (by omega)]; exact p3
  · rw [o 0 (by omega) (by omega), o 4 (by omega) (by omega), o 5 (by omega) (by omega)]; exact g8
theorem w_remB {n nO nP k : Nat} {x : Int32} {a : Nat → Int32} {σ : Mem} {Q : Mem → Prop} {E : String → Mem → Prop} (hx : x = nI k) (hk : k < n + 1) (hn : n + 1 ≤ 10) (hO : nO ≤ 8) (S : Same σ 0 (n + 1) nO nP a) (h : ∀ τ : Mem, FrC σ τ → Same τ 0 n nO nP (r_rem a k n) → Q τ) : wX1_removeAt 0 x σ Q E := by
  subst hx
  unfold wX1_removeAt
  have hs : ∀ i : Nat, i < 5 → rd σ 0 (0 + i) 1 = nI (n + 1) := fun i hi => (S.rB i hi).1
  refine PM.rem (b := 0) (i := 0) (n := n) (g := fun i q => rd σ 1 (0 + i) (rm k q)) hn hk (hs 0 (by decide)) (fun q hq => rfl) (PM.rf σ 0 _ _) (fun t0 P0 => ?_)
  refine PM.rem (b := 0) (i := 1) (n := n) (g := fun i q => rd σ 1 (0 + i) (rm k q)) hn hk (hs 1 (by decide)) (fun q hq => rfl) P0 (fun t1 P1 => ?_)
  refine PM.rem (b := 0) (i := 2) (n := n) (g := fun i q => rd σ 1 (0 + i) (rm k q)) hn hk (hs 2 (by decide)) (fun q hq => rfl) P1 (fun t2 P2 => ?_)
  refine PM.rem (b := 0) (i := 3) (n := n) (g := fun i q => rd σ 1 (0 + i) (rm k q)) hn hk (hs 3 (by decide)) (fun q hq => rfl) P2 (fun t3 P3 => ?_)
  refine PM.rem (b := 0) (i := 4) (n := n) (g := fun i q => rd σ 1 (0 + i) (rm k q)) hn hk (hs 4 (by decide)) (fun q hq => rfl) P3 (fun τ P4 => ?_)
  obtain ⟨z6, z3, z5, z4, z7, z8, z9, z10, z11, y2, y3⟩ := S.1
  have u1 : ∀ f k s : Nat, ¬ (f ≤ 1 ∧ k < 5) → rd τ f k s = rd σ f k s := fun f k s m => P4.1 f k s (by omega)
  have o : ∀ s : Nat, s ≠ 11 → (s < 14 ∨ 54 ≤ s) → r_rem a k n s = a s := fun s h h2 => rem_o (by omega) h h2
  refine h τ ⟨fun f k s m m2 => u1 f k s (by unfold SIn at m; omega), P4.2.2⟩ (Same.mk0 ⟨?_, ?_, ?_, ?_, ?_, ?_, ?_, ?_, ?_, ?_, ?_⟩ (fun i hi => ⟨(P4.2.1 i hi).1, fun q hq => ?_⟩) (fun i hi => ⟨?_, fun q hq => ?_⟩) ⟨?_, fun q hq => ?_⟩)
  · rw [u1 4 0 6 (by omega), o 0 (by omega) (by omega)]; exact z6
  · rw [u1 4 0 3 (by omega), o 1 (by omega) (by omega)]; exact z3
  · rw [u1 4 0 5 (by omega), o 2 (by omega) (by omega)]; exact z5
  · rw [u1 4 0 4 (by omega), o 3 (by omega) (by omega)]; exact z4
  · rw [u1 4 0 7 (by omega), o 4 (by omega) (by omega)]; exact z7
  · rw [u1 4 0 8 (by omega), o 5 (by omega) (by omega)]; exact z8
  · rw [u1 4 0 9 (by omega), o 6 (by omega) (by omega)]; exact z9
  · rw [u1 4 0 10 (by omega), o 7 (by omega) (by omega)]; exact z10
  · rw [u1 4 0 11 (by omega), o 8 (by omega) (by omega)]; exact z11
  · rw [u1 2 0 5 (by omega), o 9 (by omega) (by omega)]; exact y2
  · rw [u1 3 0 4 (by omega), o 10 (by omega) (by omega)]; exact y3
  · rw [(P4.2.1 i hi).2 q hq, gB_rem hk hn hq]
    exact (S.rB i hi).2 _ (rm_lt hk hq)
  · exact (u1 0 _ 1 (by omega)).trans (S.rO i hi).1
  · exact (u1 1 _ q (by omega)).trans (((S.rO i hi).2 q hq).trans (gO_cg (fun s _ _ => (o s (by omega) (by omega)).symm) (by omega)))
  · exact (u1 0 9 1 (by omega)).trans S.2.2.2.1
  · rw [u1 1 9 q (by omega), o (78 + q) (by omega) (by omega)]
    exact S.2.2.2.2.2.2 q hq
/-- bales of set b taken out, from the last of n on, i looked at: how many are left, and the row -/
def bl (a : Nat → Int32) (b n : Nat) : Nat → Nat × (Nat → Int32)
  | 0 => (n, a)
  | i + 1 => if b.testBit (n - 1 - i) then ((bl a b n i).1 - 1, r_rem (bl a b n i).2 (n - 1 - i) ((bl a b n i).1 - 1)) else bl a b n i
theorem bl_ge (a : Nat → Int32) (b n i : Nat) (hi : i ≤ n) : n - i ≤ (bl a b n i).1 ∧ (bl a b n i).1 ≤ n := by
  induction i with
  | zero => exact ⟨Nat.le_refl n, Nat.le_refl n⟩
  | succ i ih =>
    have h := ih (by omega)
    unfold bl
    split
    · show n - (i + 1) ≤ (bl a b n i).1 - 1 ∧ (bl a b n i).1 - 1 ≤ n
      omega
    · omega
theorem bl_fits {t nO nP : Nat} {a : Nat → Int32} (b n i : Nat) (hi : i ≤ n) (F : Fits t n nO nP a) : Fits t (bl a b n i).1 nO nP (bl a b n i).2 := by
  induction i with
  | zero => exact F
  | succ i ih =>
    have h := ih (by omega)
    have g := bl_ge a b n i (by omega)
    unfold bl
    split
    · show Fits t ((bl a b n i).1 - 1) nO nP (r_rem (bl a b n i).2 (n - 1 - i) ((bl a b n i).1 - 1))
      obtain ⟨m, hm⟩ : ∃ m, (bl a b n i).1 = m + 1 := ⟨(bl a b n i).1 - 1, by omega⟩
      rw [hm] at h ⊢
      exact h.rem (by omega)
    · exact h
theorem rem_up (a : Nat → Int32) (k n : Nat) (v : Int32) : r_rem (up a 1 v) k n = up (r_rem a k n) 1 v := by
  funext s
  unfold r_rem
  by_cases c : s = 1
  · subst c
    rw [up_ne (by omega), up_eq]
    unfold clo
    rw [if_neg (by omega), if_neg (by omega), up_eq]
  · rw [up_ne c]
    by_cases c2 : s = 11
    · subst c2
      rw [up_eq, up_eq]
    · rw [up_ne c2, up_ne c2]
      unfold clo
      by_cases c3 : 14 + 4 * k ≤ s ∧ s < 54 - 4
      · rw [if_pos c3, if_pos c3, up_ne (by omega)]
      · rw [if_neg c3, if_neg c3]
        by_cases c4 : 54 - 4 ≤ s ∧ s < 54
        · rw [if_pos c4, if_pos c4]
        · rw [if_neg c4, if_neg c4, up_ne c]
theorem bl_up (a : Nat → Int32) (b n : Nat) (v : Int32) (i : Nat) : bl (up a 1 v) b n i = ((bl a b n i).1, up (bl a b n i).2 1 v) := by
  induction i with
  | zero => rfl
  | succ i ih =>
    unfold bl
    rw [ih]
    split
    · rw [rem_up]
    · rfl
theorem w_weightOf {n x : Nat} {w s z : Nat → Nat} {σ : Mem} {Q : Int32 → Mem → Prop} {E : String → Mem → Prop} (B : BCx σ n w s z) (hx : x < 1024) (h : Q (nI (sB w x n)) σ) : wX1_weightOf 0 (nI x) σ Q E := by
  have hn := B.1
  have key : ∀ m k : Nat, k + m = n → wX1_weightOf_4 0 Q E (fun x s => Q x s) (m + 1) (nI x) (nI (sB w x k)) (nI k) σ := by
    intro m
    induction m with
    | zero =>
      intro k hk
      obtain rfl : k = n := by omega
      exact ⟨fun _ => h, fun r => absurd (show rd σ 0 0 1 ≤ nI k from B.2.1.1 ▸ nI_le (Nat.le_refl k) (by omega)) r⟩
    | succ m ih =>
      intro k hk
      have hh := ih (k + 1) (by omega)
      have ee : sB w x (k + 1) = sB w x k + (if x.testBit k then w k else 0) := rfl
      refine ⟨fun r => absurd (show nI n ≤ nI k from B.2.1.1 ▸ r) (nI_ge (by omega) (by omega)), fun _ => ?_⟩
      rw [bitC (by omega) (by omega)]
      refine ⟨fun c v4 h4 => ?_, fun c => w_get (k := 1) (n := n) (i := k) B.2.1.2.1 (by omega) hn rfl (fun v3 h3 v4 h4 => ?_)⟩
      · rw [nI_1] at h4
        rw [ee, c] at hh
        rw [h4]
        exact hh
      · have c' : x.testBit k = true := by
          cases hc : x.testBit k with
          | true => rfl
          | false => exact absurd hc c
        rw [(B.2.2.1 k (by omega)).1, nI_add] at h3
        rw [nI_1] at h4
        rw [ee, if_pos c'] at hh
        rw [h3, h4]
        exact hh
  exact ⟨n + 1, key n 0 (by omega)⟩
theorem w_removeSet {n nO nP b : Nat} {a : Nat → Int32} {σ : Mem} {Q : Mem → Prop} {E : String → Mem → Prop} (hn : n ≤ 10) (hb : b < 1024) (hO : nO ≤ 8) (S : Same σ 0 n nO nP a) (h : ∀ τ : Mem, FrC σ τ → Same τ 0 (bl a b n n).1 nO nP (bl a b n n).2 → Q τ) : wX1_removeSet 0 (nI b) σ Q E := by
  have key : ∀ (m i : Nat) (v : Int32) (σ' : Mem), i + m = n → v = nI n - 1 - nI i → FrC σ σ' → Same σ' 0 (bl a b n i).1 nO nP (bl a b n i).2 → wX1_removeSet_10 0 Q E (fun s => Q s) (m + 1) (nI b) v σ' := by
    intro m
    induction m with
    | zero =>
      intro i v σ' hi hv p1 p2
      obtain rfl : i = n := by omega
      have hv' : v = -1 := by
        rw [hv]
        grind
      subst hv'
      exact ⟨fun _ => h σ' p1 p2, fun r => absurd (show (-1 : Int32) < 0 by decide) r⟩
    | succ m ih =>
      intro i v σ' hi hv p1 p2
      obtain ⟨k, hk⟩ : ∃ k, n = i + 1 + k := ⟨n - 1 - i, by omega⟩
      have hv' : v = nI k := by
        rw [hv, show nI n = nI (i + k) + 1 by rw [nI_1]; congr 1; omega, ← nI_add]
        grind
      have hg := bl_ge a b n i (by omega)
      have next : ∀ v2 : Int32, v2 = v + (-1) → v2 = nI n - 1 - nI (i + 1) := fun v2 h2 => by
        rw [h2, hv, ← nI_1]
        grind
      have ek : n - 1 - i = k := by omega
      have ee : bl a b n (i + 1) = if b.testBit k then ((bl a b n i).1 - 1, r_rem (bl a b n i).2 k ((bl a b n i).1 - 1)) else bl a b n i := by
        rw [← ek]
        rfl
      refine ⟨fun r => absurd (hv' ▸ r) (nI_pos (by omega)), fun _ => ?_⟩
      rw [hv', bitC (by omega) (by omega)]
      refine ⟨fun c v2 h2 => ?_, fun c => ?_⟩
      · refine ih (i + 1) v2 σ' (by omega) (next v2 (by rw [hv']; exact h2)) p1 ?_
        rw [ee, c]
        exact p2
      · have c' : b.testBit k = true := by
          cases hc : b.testBit k with
          | true => rfl
          | false => exact absurd hc c
        obtain ⟨l, hl⟩ : ∃ l, (bl a b n i).1 = l + 1 := ⟨(bl a b n i).1 - 1, by omega⟩
        rw [hl] at p2
        refine w_remB rfl (n := l) (k := k) (by omega) (by omega) hO p2 (fun τ t1 t2 v2 h2 => ?_)
        refine ih (i + 1) v2 τ (by omega) (next v2 (by rw [hv']; exact h2)) (p1.tr t1) ?_
        rw [ee, if_pos c', hl]
        exact t2
  unfold wX1_removeSet
  show ∀ v2 : Int32, v2 = rd σ 0 0 1 - 1 → _
  rw [show rd σ 0 0 1 = nI n from S.2.1 0 (by decide)]
  intro v2 h2
  refine ⟨n + 1, key n 0 v2 σ (by omega) ?_ (FrC.rf σ) S⟩
  rw [h2, nI_0]
  grind
