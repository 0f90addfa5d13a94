/-! A BLEND MADE -/
def r_rem (a : Nat → Int32) (k n : Nat) : Nat → Int32 := up (clo a (14 + 4 * k) 4 54) 11 (nI n)
theorem rem_o {a : Nat → Int32} {k n : Nat} (hk : k < 10) {s : Nat} (h : s ≠ 11) (h2 : s < 14 ∨ 54 ≤ s) : r_rem a k n s = a s := by
  unfold r_rem
  rw [up_ne h]
  rcases h2 with c | c
  · exact clo_lt (by omega) (by omega)
  · exact clo_ge c
theorem rem_q {a : Nat → Int32} {k n q d : Nat} (hk : k < n + 1) (hn : n + 1 ≤ 10) (hq : q < n) (hd : d < 4) : r_rem a k n (14 + d + 4 * q) = a (14 + d + 4 * rm k q) := by
  unfold r_rem
  rw [up_ne (by omega)]
  unfold rm
  by_cases c : q < k
  · rw [if_pos c]
    exact clo_lt (by omega) (by omega)
  · rw [if_neg c, clo_in (by omega) (by omega)]
    exact congrArg a (by omega)
theorem gB_rem {a : Nat → Int32} {k n q i : Nat} (hk : k < n + 1) (hn : n + 1 ≤ 10) (hq : q < n) : gB (r_rem a k n) i q = gB a i (rm k q) := by
  match i with
  | 0 => exact rem_q (d := 0) hk hn hq (by decide)
  | 1 => exact rem_q (d := 1) hk hn hq (by decide)
  | 2 => exact rem_q (d := 2) hk hn hq (by decide)
  | 3 => exact rem_q (d := 3) hk hn hq (by decide)
  | i + 4 =>
    have h1 : r_rem a k n (15 + 4 * q) = a (15 + 4 * rm k q) := rem_q (d := 1) hk hn hq (by decide)
    have h2 : r_rem a k n (17 + 4 * q) = a (17 + 4 * rm k q) := rem_q (d := 3) hk hn hq (by decide)
    show r_rem a k n (15 + 4 * q) * r_rem a k n (17 + 4 * q) = a (15 + 4 * rm k q) * a (17 + 4 * rm k q)
    rw [h1, h2]
theorem Fits.rem {t n nO nP k : Nat} {a : Nat → Int32} (hk : k < n + 1) (F : Fits t (n + 1) nO nP a) : Fits t n nO nP (r_rem a k n) := by
  obtain ⟨⟨f1, f2, f3, f4, f5, f6⟩, g1, g2, g3, g4, g5, g6, ⟨z, p1, p2, p3⟩, g8⟩ := F
  have o : ∀ s : Nat, s ≠ 11 → (s < 14 ∨ 54 ≤ s) → r_rem a k n s = a s := fun s h h2 => rem_o (by omega) h h2
  refine ⟨⟨by omega, f2, f3, up_eq _ _ _, ?_, ?_⟩, ?_, ?_, ?_, ?_, fun q hq => ?_, fun q hq => ?_, ⟨z, fun q hq => ?_, p2, ?_⟩, ?_⟩
  · rw [o 12 (by omega) (by omega)]; exact f5
  · rw [o 13 (by omega) (by omega)]; exact f6
  · rw [o 3 (by omega) (by omega)]; exact g1
  · rw [o 1 (by omega) (by omega)]; exact g2
  · rw [o 9 (by omega) (by omega)]; exact g3
  · rw [o 10 (by omega) (by omega)]; exact g4
  · have h0 : r_rem a k n (14 + 4 * q) = a (14 + 4 * rm k q) := rem_q (d := 0) hk f1 hq (by decide)
    have h1 : r_rem a k n (15 + 4 * q) = a (15 + 4 * rm k q) := rem_q (d := 1) hk f1 hq (by decide)
    have h2 : r_rem a k n (16 + 4 * q) = a (16 + 4 * rm k q) := rem_q (d := 2) hk f1 hq (by decide)
    have h3 : r_rem a k n (17 + 4 * q) = a (17 + 4 * rm k q) := rem_q (d := 3) hk f1 hq (by decide)
    rw [h0, h1, h2, h3]
    exact g5 _ (rm_lt hk hq)
  · rw [o (54 + 3 * q) (by omega) (by omega), o (55 + 3 * q) (by omega) (by omega), o (56 + 3 * q) (by omega) (by omega)]
    exact g6 q hq
  · rw [o (78 + q) (by omega) (by omega)]; exact p1 q hq
  · rw [o 6 (by omega) (by omega), o 8 (by omega) (by omega), o 7 (by omega) (by omega)]; exact p3
  · rw [o 0 (by omega) (by omega), o 4 (by omega) (by omega), o 5 (by omega) (by omega)]; exact g8
theorem w_remB {n nO nP k : Nat} {x : Int32} {a : Nat → Int32} {σ : Mem} {Q : Mem → Prop} {E : String → Mem → Prop} (hx : x = nI k) (hk : k < n + 1) (hn : n + 1 ≤ 10) (hO : nO ≤ 8) (S : Same σ 0 (n + 1) nO nP a) (h : ∀ τ : Mem, FrC σ τ → Same τ 0 n nO nP (r_rem a k n) → Q τ) : wX1_removeAt 0 x σ Q E := by
  subst hx
  unfold wX1_removeAt
  have hs : ∀ i : Nat, i < 5 → rd σ 0 (0 + i) 1 = nI (n + 1) := fun i hi => (S.rB i hi).1
  refine PM.rem (b := 0) (i := 0) (n := n) (g := fun i q => rd σ 1 (0 + i) (rm k q)) hn hk (hs 0 (by decide)) (fun q hq => rfl) (PM.rf σ 0 _ _) (fun t0 P0 => ?_)
  refine PM.rem (b := 0) (i := 1) (n := n) (g := fun i q => rd σ 1 (0 + i) (rm k q)) hn hk (hs 1 (by decide)) (fun q hq => rfl) P0 (fun t1 P1 => ?_)
  refine PM.rem (b := 0) (i := 2) (n := n) (g := fun i q => rd σ 1 (0 + i) (rm k q)) hn hk (hs 2 (by decide)) (fun q hq => rfl) P1 (fun t2 P2 => ?_)
  refine PM.rem (b := 0) (i := 3) (n := n) (g := fun i q => rd σ 1 (0 + i) (rm k q)) hn hk (hs 3 (by decide)) (fun q hq => rfl) P2 (fun t3 P3 => ?_)
  refine PM.rem (b := 0) (i := 4) (n := n) (g := fun i q => rd σ 1 (0 + i) (rm k q)) hn hk (hs 4 (by decide)) (fun q hq => rfl) P3 (fun τ P4 => ?_)
  obtain ⟨z6, z3, z5, z4, z7, z8, z9, z10, z11, y2, y3⟩ := S.1
  have u1 : ∀ f k s : Nat, ¬ (f ≤ 1 ∧ k < 5) → rd τ f k s = rd σ f k s := fun f k s m => P4.1 f k s (by omega)
  have o : ∀ s : Nat, s ≠ 11 → (s < 14 ∨ 54 ≤ s) → r_rem a k n s = a s := fun s h h2 => rem_o (by omega) h h2
  refine h τ ⟨fun f k s m m2 => u1 f k s (by unfold SIn at m; omega), P4.2.2⟩ (Same.mk0 ⟨?_, ?_, ?_, ?_, ?_, ?_, ?_, ?_, ?_, ?_, ?_⟩ (fun i hi => ⟨(P4.2.1 i hi).1, fun q hq => ?_⟩) (fun i hi => ⟨?_, fun q hq => ?_⟩) ⟨?_, fun q hq => ?_⟩)
  · rw [u1 4 0 6 (by omega), o 0 (by omega) (by omega)]; exact z6
  · rw [u1 4 0 3 (by omega), o 1 (by omega) (by omega)]; exact z3
  · rw [u1 4 0 5 (by omega), o 2 (by omega) (by omega)]; exact z5
  · rw [u1 4 0 4 (by omega), o 3 (by omega) (by omega)]; exact z4
  · rw [u1 4 0 7 (by omega), o 4 (by omega) (by omega)]; exact z7
  · rw [u1 4 0 8 (by omega), o 5 (by omega) (by omega)]; exact z8
  · rw [u1 4 0 9 (by omega), o 6 (by omega) (by omega)]; exact z9
  · rw [u1 4 0 10 (by omega), o 7 (by omega) (by omega)]; exact z10
  · rw [u1 4 0 11 (by omega), o 8 (by omega) (by omega)]; exact z11
  · rw [u1 2 0 5 (by omega), o 9 (by omega) (by omega)]; exact y2
  · rw [u1 3 0 4 (by omega), o 10 (by omega) (by omega)]; exact y3
  · rw [(P4.2.1 i hi).2 q hq, gB_rem hk hn hq]
    exact (S.rB i hi).2 _ (rm_lt hk hq)
  · exact (u1 0 _ 1 (by omega)).trans (S.rO i hi).1
  · exact (u1 1 _ q (by omega)).trans (((S.rO i hi).2 q hq).trans (gO_cg (fun s _ _ => (o s (by omega) (by omega)).symm) (by omega)))
  · exact (u1 0 9 1 (by omega)).trans S.2.2.2.1
  · rw [u1 1 9 q (by omega), o (78 + q) (by omega) (by omega)]
    exact S.2.2.2.2.2.2 q hq
/-- bales of set b taken out, from the last of n on, i looked at: how many are left, and the row -/
def bl (a : Nat → Int32) (b n : Nat) : Nat → Nat × (Nat → Int32)
  | 0 => (n, a)
  | i + 1 => if b.testBit (n - 1 - i) then ((bl a b n i).1 - 1, r_rem (bl a b n i).2 (n - 1 - i) ((bl a b n i).1 - 1)) else bl a b n i
theorem bl_ge (a : Nat → Int32) (b n i : Nat) (hi : i ≤ n) : n - i ≤ (bl a b n i).1 ∧ (bl a b n i).1 ≤ n := by
  induction i with
  | zero => exact ⟨Nat.le_refl n, Nat.le_refl n⟩
  | succ i ih =>
    have h := ih (by omega)
    unfold bl
    split
    · show n - (i + 1) ≤ (bl a b n i).1 - 1 ∧ (bl a b n i).1 - 1 ≤ n
      omega
    · omega
theorem bl_fits {t nO nP : Nat} {a : Nat → Int32} (b n i : Nat) (hi : i ≤ n) (F : Fits t n nO nP a) : Fits t (bl a b n i).1 nO nP (bl a b n i).2 := by
  induction i with
  | zero => exact F
  | succ i ih =>
    have h := ih (by omega)
    have g := bl_ge a b n i (by omega)
    unfold bl
    split
    · show Fits t ((bl a b n i).1 - 1) nO nP (r_rem (bl a b n i).2 (n - 1 - i) ((bl a b n i).1 - 1))
      obtain ⟨m, hm⟩ : ∃ m, (bl a b n i).1 = m + 1 := ⟨(bl a b n i).1 - 1, by omega⟩
      rw [hm] at h ⊢
      exact h.rem (by omega)
    · exact h
theorem rem_up (a : Nat → Int32) (k n : Nat) (v : Int32) : r_rem (up a 1 v) k n = up (r_rem a k n) 1 v := by
  funext s
  unfold r_rem
  by_cases c : s = 1
  · subst c
    rw [up_ne (by omega), up_eq]
    unfold clo
    rw [if_neg (by omega), if_neg (by omega), up_eq]
  · rw [up_ne c]
    by_cases c2 : s = 11
    · subst c2
      rw [up_eq, up_eq]
    · rw [up_ne c2, up_ne c2]
      unfold clo
      by_cases c3 : 14 + 4 * k ≤ s ∧ s < 54 - 4
      · rw [if_pos c3, if_pos c3, up_ne (by omega)]
      · rw [if_neg c3, if_neg c3]
        by_cases c4 : 54 - 4 ≤ s ∧ s < 54
        · rw [if_pos c4, if_pos c4]
        · rw [if_neg c4, if_neg c4, up_ne c]
theorem bl_up (a : Nat → Int32) (b n : Nat) (v : Int32) (i : Nat) : bl (up a 1 v) b n i = ((bl a b n i).1, up (bl a b n i).2 1 v) := by
  induction i with
  | zero => rfl
  | succ i ih =>
    unfold bl
    rw [ih]
    split
    · rw [rem_up]
    · rfl
theorem w_weightOf {n x : Nat} {w s z : Nat → Nat} {σ : Mem} {Q : Int32 → Mem → Prop} {E : String → Mem → Prop} (B : BCx σ n w s z) (hx : x < 1024) (h : Q (nI (sB w x n)) σ) : wX1_weightOf 0 (nI x) σ Q E := by
  have hn := B.1
  have key : ∀ m k : Nat, k + m = n → wX1_weightOf_4 0 Q E (fun x s => Q x s) (m + 1) (nI x) (nI (sB w x k)) (nI k) σ := by
    intro m
    induction m with
    | zero =>
      intro k hk
      obtain rfl : k = n := by omega
      exact ⟨fun _ => h, fun r => absurd (show rd σ 0 0 1 ≤ nI k from B.2.1.1 ▸ nI_le (Nat.le_refl k) (by omega)) r⟩
    | succ m ih =>
      intro k hk
      have hh := ih (k + 1) (by omega)
      have ee : sB w x (k + 1) = sB w x k + (if x.testBit k then w k else 0) := rfl
      refine ⟨fun r => absurd (show nI n ≤ nI k from B.2.1.1 ▸ r) (nI_ge (by omega) (by omega)), fun _ => ?_⟩
      rw [bitC (by omega) (by omega)]
      refine ⟨fun c v4 h4 => ?_, fun c => w_get (k := 1) (n := n) (i := k) B.2.1.2.1 (by omega) hn rfl (fun v3 h3 v4 h4 => ?_)⟩
      · rw [nI_1] at h4
        rw [ee, c] at hh
        rw [h4]
        exact hh
      · have c' : x.testBit k = true := by
          cases hc : x.testBit k with
          | true => rfl
          | false => exact absurd hc c
        rw [(B.2.2.1 k (by omega)).1, nI_add] at h3
        rw [nI_1] at h4
        rw [ee, if_pos c'] at hh
        rw [h3, h4]
        exact hh
  exact ⟨n + 1, key n 0 (by omega)⟩
theorem w_removeSet {n nO nP b : Nat} {a : Nat → Int32} {σ : Mem} {Q : Mem → Prop} {E : String → Mem → Prop} (hn : n ≤ 10) (hb : b < 1024) (hO : nO ≤ 8) (S : Same σ 0 n nO nP a) (h : ∀ τ : Mem, FrC σ τ → Same τ 0 (bl a b n n).1 nO nP (bl a b n n).2 → Q τ) : wX1_removeSet 0 (nI b) σ Q E := by
  have key : ∀ (m i : Nat) (v : Int32) (σ' : Mem), i + m = n → v = nI n - 1 - nI i → FrC σ σ' → Same σ' 0 (bl a b n i).1 nO nP (bl a b n i).2 → wX1_removeSet_10 0 Q E (fun s => Q s) (m + 1) (nI b) v σ' := by
    intro m
    induction m with
    | zero =>
      intro i v σ' hi hv p1 p2
      obtain rfl : i = n := by omega
      have hv' : v = -1 := by
        rw [hv]
        grind
      subst hv'
      exact ⟨fun _ => h σ' p1 p2, fun r => absurd (show (-1 : Int32) < 0 by decide) r⟩
    | succ m ih =>
      intro i v σ' hi hv p1 p2
      obtain ⟨k, hk⟩ : ∃ k, n = i + 1 + k := ⟨n - 1 - i, by omega⟩
      have hv' : v = nI k := by
        rw [hv, show nI n = nI (i + k) + 1 by rw [nI_1]; congr 1; omega, ← nI_add]
        grind
      have hg := bl_ge a b n i (by omega)
      have next : ∀ v2 : Int32, v2 = v + (-1) → v2 = nI n - 1 - nI (i + 1) := fun v2 h2 => by
        rw [h2, hv, ← nI_1]
        grind
      have ek : n - 1 - i = k := by omega
      have ee : bl a b n (i + 1) = if b.testBit k then ((bl a b n i).1 - 1, r_rem (bl a b n i).2 k ((bl a b n i).1 - 1)) else bl a b n i := by
        rw [← ek]
        rfl
      refine ⟨fun r => absurd (hv' ▸ r) (nI_pos (by omega)), fun _ => ?_⟩
      rw [hv', bitC (by omega) (by omega)]
      refine ⟨fun c v2 h2 => ?_, fun c => ?_⟩
      · refine ih (i + 1) v2 σ' (by omega) (next v2 (by rw [hv']; exact h2)) p1 ?_
        rw [ee, c]
        exact p2
      · have c' : b.testBit k = true := by
          cases hc : b.testBit k with
          | true => rfl
          | false => exact absurd hc c
        obtain ⟨l, hl⟩ : ∃ l, (bl a b n i).1 = l + 1 := ⟨(bl a b n i).1 - 1, by omega⟩
        rw [hl] at p2
        refine w_remB rfl (n := l) (k := k) (by omega) (by omega) hO p2 (fun τ t1 t2 v2 h2 => ?_)
        refine ih (i + 1) v2 τ (by omega) (next v2 (by rw [hv']; exact h2)) (p1.tr t1) ?_
        rw [ee, if_pos c', hl]
        exact t2
  unfold wX1_removeSet
  show ∀ v2 : Int32, v2 = rd σ 0 0 1 - 1 → _
  rw [show rd σ 0 0 1 = nI n from S.2.1 0 (by decide)]
  intro v2 h2
  refine ⟨n + 1, key n 0 v2 σ (by omega) ?_ (FrC.rf σ) S⟩
  rw [h2, nI_0]
  grind
theorem w_blends96 {n b : Nat} {x : Int32} {a : Nat → Int32} {σ : Mem} {Q : Int32 → Mem → Prop} {E : String → Mem → Prop} {X : Int32 → Mem → Prop} {v0 : Int32} (hn : n ≤ 10) (hb : b < 1024) (h8 : rd σ 10 8 = a) (h11 : a 11 = nI n) (hv0 : v0 = nI n - 1) (h : ∀ τ : Mem, FrR σ τ → rd τ 15 0 7 = rd σ 15 0 7 → rd τ 10 8 = (bl a b n n).2 → X x τ) : ∃ m : Nat, wX13_blends_96 Q E X m (nI b) x v0 σ := by
  have key : ∀ (m i : Nat) (v : Int32) (σ' : Mem), i + m = n → v = nI n - 1 - nI i → FrR σ σ' → rd σ' 15 0 7 = rd σ 15 0 7 → rd σ' 10 8 = (bl a b n i).2 → (bl a b n i).2 11 = nI (bl a b n i).1 → wX13_blends_96 Q E X (m + 1) (nI b) x v σ' := by
    intro m
    induction m with
    | zero =>
      intro i v σ' hi hv p1 p2 p3 p4
      obtain rfl : i = n := by omega
      have hv' : v = -1 := by
        rw [hv]
        grind
      subst hv'
      exact ⟨fun _ => h σ' p1 p2 p3, fun r => absurd (show (-1 : Int32) < 0 by decide) r⟩
    | succ m ih =>
      intro i v σ' hi hv p1 p2 p3 p4
      obtain ⟨k, hk⟩ : ∃ k, n = i + 1 + k := ⟨n - 1 - i, by omega⟩
      have hv' : v = nI k := by
        rw [hv, show nI n = nI (i + k) + 1 by rw [nI_1]; congr 1; omega, ← nI_add]
        grind
      have hg := bl_ge a b n i (by omega)
      have next : ∀ v2 : Int32, v2 = v + (-1) → v2 = nI n - 1 - nI (i + 1) := fun v2 h2 => by
        rw [h2, hv, ← nI_1]
        grind
      have ek : n - 1 - i = k := by omega
      have ee : bl a b n (i + 1) = if b.testBit k then ((bl a b n i).1 - 1, r_rem (bl a b n i).2 k ((bl a b n i).1 - 1)) else bl a b n i := by
        rw [← ek]
        rfl
      refine ⟨fun r => absurd (hv' ▸ r) (nI_pos (by omega)), fun _ => ?_⟩
      rw [hv', bitR (by omega) (by omega)]
      refine ⟨fun c v2 h2 => ?_, fun c => ?_⟩
      · refine ih (i + 1) v2 σ' (by omega) (next v2 (by rw [hv']; exact h2)) p1 p2 ?_ ?_
        · rw [ee, if_neg c]
          exact p3
        · rw [ee, if_neg c]
          exact p4
      · obtain ⟨l, hl⟩ : ∃ l, (bl a b n i).1 = l + 1 := ⟨(bl a b n i).1 - 1, by omega⟩
        refine w_closes (F := 14 + 4 * k) (M := 4) (Z := 54) (ix_bal k) rfl rfl (by omega) (by omega) (by omega) (fun τ t1 t2 t3 s17 h17 v2 h2 => ?_)
        have k11 : rd τ 10 8 11 = nI (l + 1) := by rw [t3, clo_lt (by omega) (by omega), p3, p4, hl]
        rw [k11, nI_pred] at h17
        refine ih (i + 1) v2 s17 (by omega) (next v2 (by rw [hv']; exact h2)) (by rw [h17]; exact (p1.tr t1).w8 _ _) (by rw [h17, th_8, t2 15 0 7 (by omega)]; exact p2) ?_ ?_
        · rw [ee, if_pos c, h17, row_8, t3, p3, hl]
          rfl
        · rw [ee, if_pos c, hl]
          exact up_eq (clo (bl a b n i).2 (14 + 4 * k) 4 54) 11 (nI (l + 1 - 1))
  refine ⟨n + 1, key n 0 v0 σ (by omega) ?_ (FrR.rf σ) rfl h8 h11⟩
  rw [hv0, nI_0]
  grind
theorem op_1 {t nB nO nP : Nat} {a : Nat → Int32} (x1 x2 : Int32) (F : Fits t nB nO nP a) : Ch 1 x1 x2 0 [(1, 1), (3, 2), (2, 3)] (wX13_blends x1 x2) t nB nO nP a := by
  have hB := F.1.1
  have hO := F.1.2.1
  have hP := F.1.2.2.1
  have e11 : a 11 = nI nB := F.1.2.2.2.1
  obtain ⟨r, hr2, hr⟩ := F.2.2.1
  have bad : (x1 < 1 ∨ 500 < x1) ∨ (¬ (x1 < 1 ∨ 500 < x1) ∧ (x2 < 10 ∨ 60 < x2)) → Ch 1 x1 x2 0 [(1, 1), (3, 2), (2, 3)] (wX13_blends x1 x2) t nB nO nP a := by
    intro hb
    refine Or.inl ⟨1, 1, by simp, fun σ Q E S _ h => ?_, fun σ Q E ha h => ?_⟩
    · exact ⟨fun q => absurd q (by decide), fun _ => w_can0 hb ⟨fun q => absurd rfl q, fun _ => h σ (FrS.rf σ)⟩, fun q => absurd q (by decide), fun q => absurd q (by decide), fun q => absurd q (by decide), fun q => absurd q (by decide), fun q => absurd q (by decide), fun q => absurd q (by decide), fun q => absurd q (by decide)⟩
    · refine w_asked0 hb ⟨fun q => absurd rfl q, fun _ => ?_⟩
      unfold wX13_blends_14
      exact w_thr1 ⟨fun q => absurd q (by decide), fun _ => thr_end σ (FrR.rf σ) ha h⟩
  rcases ask_or x1 x2 with hb | hb | ⟨nd, sp, h1, h2⟩
  · exact bad (Or.inl hb)
  · exact bad (Or.inr hb)
  obtain ⟨w, s, z, hb⟩ := bal_wsp F
  have BR : BRx a nB w s z := ⟨hB, e11, fun q hq => ⟨(hb q hq).1, (hb q hq).2.1, (hb q hq).2.2.1⟩, fun q hq => (hb q hq).2.2.2⟩
  have BC : ∀ σ : Mem, Same σ 0 nB nO nP a → Zer σ → BCx σ nB w s z := by
    intro σ S Z
    refine ⟨hB, ⟨S.2.1 0 (by decide), S.2.1 1 (by decide), S.2.1 2 (by decide), S.2.1 4 (by decide)⟩, fun q hq => ?_, fun q hq => (hb q hq).2.2.2, Z.1 0 (by decide), Z.1 1 (by decide), Z.1 2 (by decide)⟩
    obtain ⟨-, k1, k2, -, k3⟩ := S.2.2.2.2.1 q hq
    obtain ⟨g1, g2, g3, -⟩ := hb q hq
    refine ⟨k1.trans g1, k2.trans g2, k3.trans ?_⟩
    rw [g1, g3, pk_mul]
  obtain ⟨hB1, hB2⟩ := p2_le' hB
  have hbl := bF_le w s z nB nd sp (2 ^ nB - 1)
  obtain ⟨b, hbe⟩ : ∃ b, b = bF w s z nB nd sp (2 ^ nB - 1) := ⟨_, rfl⟩
  rw [← hbe] at hbl
  have hb1024 : b < 1024 := by omega
  have e0 : nI b = 0 ↔ b = 0 := by rw [show (0 : Int32) = nI 0 from rfl, nI_eq (by omega) (by omega)]
  have bw := (br_b BR b).1
  have best : ∀ (σ : Mem) (Q : Int32 → Mem → Prop) (E : String → Mem → Prop), Same σ 0 nB nO nP a → Zer σ → (∀ τ : Mem, FB σ τ → Q (nI b) τ) → wX2_bestSet x1 x2 σ Q E := by
    intro σ Q E S Z h
    refine w_bestSet h1.2.2 h2.2.2 (BC σ S Z) h1.2.1 h2.2.1 (fun τ t1 _ => ?_)
    rw [← hbe]
    exact h τ t1
  have bestR : ∀ (σ : Mem) (Q : Int32 → Mem → Prop) (E : String → Mem → Prop), rd σ 10 8 = a → Q (nI b) σ → wX13_best x1 x2 σ Q E := by
    intro σ Q E ha h
    refine w_bestR h1.2.2 h2.2.2 (BR.on ha) h1.2.1 h2.2.1 ?_
    rw [← hbe]
    exact h
  by_cases c0 : b = 0
  · refine Or.inl ⟨3, 2, by simp, fun σ Q E S Z h => ?_, fun σ Q E ha h => ?_⟩
    · exact ⟨fun q => absurd q (by decide), fun _ => w_can1 h1 h2 ⟨fun _ => best σ _ _ S Z (fun τ t1 => ⟨fun q => absurd (e0.mpr c0) q, fun _ => h τ t1.s⟩), fun q => absurd q (by decide)⟩, fun q => absurd q (by decide), fun q => absurd q (by decide), fun q => absurd q (by decide), fun q => absurd q (by decide), fun q => absurd q (by decide), fun q => absurd q (by decide), fun q => absurd q (by decide)⟩
    · refine w_asked1 h1 h2 ⟨fun _ => ?_, fun q => absurd q (by decide)⟩
      unfold wX13_blends_14
      refine w_thr0 ⟨fun _ => bestR _ _ _ ((row_7 σ 0).trans ha) ?_, fun q => absurd rfl q⟩
      refine w_sumR (BR.on ((row_7 σ 0).trans ha)) hb1024 (Or.inl ⟨rfl, rfl⟩) ⟨fun q => absurd (e0.mpr c0) q, fun _ => ?_⟩
      exact w_thr1 ⟨fun _ => thr_end _ ((FrR.rf σ).w7 0) ((row_7 σ 0).trans ha) h, fun q => absurd q (by decide)⟩
  by_cases c1 : r + sB w b nB ≤ 999
  rotate_left
  · refine Or.inl ⟨2, 3, by simp, fun σ Q E S Z h => ?_, fun σ Q E ha h => ?_⟩
    · refine ⟨fun q => absurd q (by decide), fun _ => w_can1 h1 h2 ⟨fun _ => best σ _ _ S Z (fun τ t1 => ⟨fun _ => ?_, fun q => absurd (e0.mp q) c0⟩), fun q => absurd q (by decide)⟩, fun q => absurd q (by decide), fun q => absurd q (by decide), fun q => absurd q (by decide), fun q => absurd q (by decide), fun q => absurd q (by decide), fun q => absurd q (by decide), fun q => absurd q (by decide)⟩
      refine w_weightOf ((BC σ S Z).on t1) hb1024 ?_
      rw [t1.1 4 0 3 (by omega), S.1.2.1, hr, nI_add, show (999 : Int32) = nI 999 from rfl, nI_leI (by omega) (by omega)]
      exact ⟨fun q => absurd q c1, fun _ => h τ t1.s⟩
    · refine w_asked1 h1 h2 ⟨fun _ => ?_, fun q => absurd q (by decide)⟩
      unfold wX13_blends_14
      refine w_thr0 ⟨fun _ => bestR _ _ _ ((row_7 σ 0).trans ha) ?_, fun q => absurd rfl q⟩
      refine w_sumR (BR.on ((row_7 σ 0).trans ha)) hb1024 (Or.inl ⟨rfl, rfl⟩) ⟨fun _ => ?_, fun q => absurd (e0.mp q) c0⟩
      refine w_thr0 ⟨fun q => absurd rfl q, fun _ => ?_⟩
      rw [row_7, row_7, ha, hr, nI_add, show (999 : Int32) = nI 999 from rfl, nI_leI (by omega) (by omega)]
      refine ⟨fun q => absurd q c1, fun _ => ?_⟩
      exact w_thr1 ⟨fun q => absurd q (by decide), fun _ => thr_end _ (((FrR.rf σ).w7 0).w7 0) ((row_7 _ 0).trans ((row_7 σ 0).trans ha)) h⟩
  have F1 : Fits (t + 1) nB nO nP (up a 1 (nI (r + sB w b nB))) := by
    obtain ⟨⟨f1, f2, f3, f4, f5, f6⟩, g1, g2, g3, g4, g5, g6, ⟨p, p1, p2, p3⟩, g8⟩ := F.mono (Nat.le_succ t)
    refine ⟨⟨f1, f2, f3, ?_, ?_, ?_⟩, ?_, ⟨r + sB w b nB, c1, up_eq _ _ _⟩, ?_, ?_, fun q hq => ?_, fun q hq => ?_, ⟨p, fun q hq => ?_, p2, ?_⟩, ?_⟩
    all_goals repeat (first | rw [up_ne (by omega)] | rw [up_eq])
    · exact f4
    · exact f5
    · exact f6
    · exact g1
    · exact g3
    · exact g4
    · exact g5 q hq
    · exact g6 q hq
    · exact p1 q hq
    · exact p3
    · exact g8
  have F2 := bl_fits b nB nB (Nat.le_refl nB) F1
  have e1 : (bl (up a 1 (nI (r + sB w b nB))) b nB nB).2 1 = nI (r + sB w b nB) := by
    rw [bl_up]
    exact up_eq (bl a b nB nB).2 1 (nI (r + sB w b nB))
  refine Or.inr ⟨_, nO, nP, _, nI (r + sB w b nB), F2, fun σ Q E S Z h => ?_, fun σ Q E S Z h => ?_, fun σ Q E ha h => ?_⟩
  · refine ⟨fun q => absurd q (by decide), fun _ => w_can1 h1 h2 ⟨fun _ => best σ _ _ S Z (fun τ t1 => ⟨fun _ => ?_, fun q => absurd (e0.mp q) c0⟩), fun q => absurd q (by decide)⟩, fun q => absurd q (by decide), fun q => absurd q (by decide), fun q => absurd q (by decide), fun q => absurd q (by decide), fun q => absurd q (by decide), fun q => absurd q (by decide), fun q => absurd q (by decide)⟩
    refine w_weightOf ((BC σ S Z).on t1) hb1024 ?_
    rw [t1.1 4 0 3 (by omega), S.1.2.1, hr, nI_add, show (999 : Int32) = nI 999 from rfl, nI_leI (by omega) (by omega)]
    exact ⟨fun _ => h τ t1.s, fun q => absurd c1 q⟩
  · refine ⟨fun q => absurd q (by decide), fun _ => best σ _ _ S Z (fun τ t1 => w_weightOf ((BC σ S Z).on t1) hb1024 ?_), fun q => absurd q (by decide), fun q => absurd q (by decide), fun q => absurd q (by decide), fun q => absurd q (by decide), fun q => absurd q (by decide), fun q => absurd q (by decide), fun q => absurd q (by decide)⟩
    intro s3 h3
    rw [t1.1 4 0 3 (by omega), S.1.2.1, hr, nI_add] at h3
    have g : ∀ f k s : Nat, ¬ (f = 4 ∧ k = 0 ∧ s = 3) → ¬ (f = 10 ∧ k < 3 ∧ ¬ s = 0) → rd s3 f k s = rd σ f k s := fun f k s m m2 => by rw [h3, rd_wr, if_neg m, t1.1 f k s m2]
    have S3 : Same s3 0 nB nO nP (up a 1 (nI (r + sB w b nB))) := by
      obtain ⟨z6, z3, z5, z4, z7, z8, z9, z10, z11, y2, y3⟩ := S.1
      refine Same.mk0 ⟨?_, ?_, ?_, ?_, ?_, ?_, ?_, ?_, ?_, ?_, ?_⟩ (fun i hi => ⟨?_, fun q hq => ?_⟩) (fun i hi => ⟨?_, fun q hq => ?_⟩) ⟨?_, fun q hq => ?_⟩
      · rw [g 4 0 6 (by omega) (by omega), up_ne (by omega)]; exact z6
      · rw [h3, rd_wr, if_pos ⟨rfl, rfl, rfl⟩, up_eq]
      · rw [g 4 0 5 (by omega) (by omega), up_ne (by omega)]; exact z5
      · rw [g 4 0 4 (by omega) (by omega), up_ne (by omega)]; exact z4
      · rw [g 4 0 7 (by omega) (by omega), up_ne (by omega)]; exact z7
      · rw [g 4 0 8 (by omega) (by omega), up_ne (by omega)]; exact z8
      · rw [g 4 0 9 (by omega) (by omega), up_ne (by omega)]; exact z9
      · rw [g 4 0 10 (by omega) (by omega), up_ne (by omega)]; exact z10
      · rw [g 4 0 11 (by omega) (by omega), up_ne (by omega)]; exact z11
      · rw [g 2 0 5 (by omega) (by omega), up_ne (by omega)]; exact y2
      · rw [g 3 0 4 (by omega) (by omega), up_ne (by omega)]; exact y3
      · exact (g 0 _ 1 (by omega) (by omega)).trans (S.rB i hi).1
      · exact (g 1 _ q (by omega) (by omega)).trans (((S.rB i hi).2 q hq).trans (gB_cg (fun s _ _ => (up_ne (by omega)).symm) (by omega)))
      · exact (g 0 _ 1 (by omega) (by omega)).trans (S.rO i hi).1
      · exact (g 1 _ q (by omega) (by omega)).trans (((S.rO i hi).2 q hq).trans (gO_cg (fun s _ _ => (up_ne (by omega)).symm) (by omega)))
      · exact (g 0 9 1 (by omega) (by omega)).trans S.2.2.2.1
      · rw [g 1 9 q (by omega) (by omega), up_ne (by omega)]
        exact S.2.2.2.2.2.2 q hq
    refine w_removeSet hB hb1024 hO S3 (fun y y1 y2 => ?_)
    show Q (rd y 4 0 3) y
    rw [show rd y 4 0 3 = nI (r + sB w b nB) from y2.1.2.1.trans e1]
    refine h y (FrC.tr ⟨fun f k s m m2 => g f k s (by unfold SIn at m; omega) (by unfold scr at m2; omega), by rw [h3]; exact t1.2⟩ y1) y2
  · refine w_asked1 h1 h2 ⟨fun _ => ?_, fun q => absurd q (by decide)⟩
    unfold wX13_blends_14
    refine w_thr0 ⟨fun _ => bestR _ _ _ ((row_7 σ 0).trans ha) ?_, fun q => absurd rfl q⟩
    refine w_sumR (BR.on ((row_7 σ 0).trans ha)) hb1024 (Or.inl ⟨rfl, rfl⟩) ⟨fun _ => ?_, fun q => absurd (e0.mp q) c0⟩
    refine w_thr0 ⟨fun q => absurd rfl q, fun _ => ?_⟩
    rw [row_7, row_7, ha, hr, nI_add, show (999 : Int32) = nI 999 from rfl, nI_leI (by omega) (by omega)]
    refine ⟨fun _ => ?_, fun q => absurd c1 q⟩
    refine w_thr0 ⟨fun _ v5 h5 => ?_, fun q => absurd rfl q⟩
    have h8 : rd (wr (wr (wr σ 15 0 7 0) 15 0 7 0) 15 0 7 0) 10 8 = a := (row_7 _ 0).trans ((row_7 _ 0).trans ((row_7 _ 0).trans ha))
    rw [h8, e11] at h5
    refine w_blends96 hB hb1024 h8 e11 h5 (fun τ u1 u2 u3 s21 h21 => ?_)
    have er : rd s21 10 8 = (bl (up a 1 (nI (r + sB w b nB))) b nB nB).2 := by
      rw [h21, row_8, u3, bl_up]
      have k1 : (bl a b nB nB).2 1 = nI r := by
        have hk : ∀ i : Nat, i ≤ nB → (bl a b nB i).2 1 = a 1 := by
          intro i
          induction i with
          | zero => intro _; rfl
          | succ i ih =>
            intro hi
            unfold bl
            split
            · show r_rem (bl a b nB i).2 (nB - 1 - i) ((bl a b nB i).1 - 1) 1 = a 1
              rw [rem_o (by omega) (by omega) (by omega)]
              exact ih (by omega)
            · exact ih (by omega)
        rw [hk nB (Nat.le_refl nB), hr]
      rw [k1, nI_add]
    rw [er, e1]
    refine h s21 ?_ er ?_
    · rw [h21]
      exact FrR.w8 (FrR.tr ((((FrR.rf σ).w7 0).w7 0).w7 0) u1) _ _
    · rw [h21, th_8, u2, th_at]
theorem pC_1 {j : Nat} {σ : Mem} (I : Inv j σ) (a1 : Int32) (a2 : Int32) : wC_1 a1 a2 σ (Inv (j + 1)) := by
  refine chg I (c := 1) (L := [(1, 1), (3, 2), (2, 3)]) (wR := wX13_blends a1 a2) (fun r h m => ?_) (fun t nB nO nP a _ F => op_1 a1 a2 F) (K := fun k s => wX13_blend a1 a2 s (fun bb s1 => wX13_thrown s1 (fun t s2 => t = k ∧ (k = 0 → rdL s2 = bb.toInt64) ∧ Inv (j + 1) s2) (fun _ _ => False)) (fun _ _ => False)) (fun k s hh => hh) (fun r h τ m hk => ?_)
  · simp only [List.mem_cons, List.mem_nil_iff, Prod.mk.injEq, or_false] at m
    rcases m with ⟨rfl, rfl⟩ | ⟨rfl, rfl⟩ | ⟨rfl, rfl⟩ <;> decide
  · simp only [List.mem_cons, List.mem_nil_iff, Prod.mk.injEq, or_false] at m
    rcases m with ⟨rfl, rfl⟩ | ⟨rfl, rfl⟩ | ⟨rfl, rfl⟩
    · exact Or.inl ⟨rfl, hk⟩
    · exact Or.inr (Or.inl ⟨rfl, hk⟩)
    · exact Or.inr (Or.inr (⟨rfl, hk⟩))
