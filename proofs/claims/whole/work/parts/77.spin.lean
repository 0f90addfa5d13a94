/-! AN ORDER SPUN -/
/-- piece number v of l kilometres that break after every d -/
def pv (l d v : Nat) : Nat := if l - v * d < d then l - v * d else d
theorem sum_pv (l d v : Nat) : sumN (pv l d) v = if v * d < l then v * d else l := by
  induction v with
  | zero =>
    show 0 = _
    rw [Nat.zero_mul]
    split <;> omega
  | succ v ih =>
    show sumN (pv l d) v + pv l d v = _
    rw [ih, Nat.succ_mul]
    unfold pv
    generalize v * d = y
    split <;> split <;> split <;> omega
theorem pcs_lo {l w : Nat} (v : Nat) (h : v < pcs l w) : v * (3 + w) < l := by
  unfold pcs at h
  have h1 : (v + 1) * (3 + w) ≤ l + (3 + w) - 1 := (Nat.le_div_iff_mul_le (by omega)).mp h
  rw [Nat.succ_mul] at h1
  omega
theorem pcs_hi (l w : Nat) : l ≤ pcs l w * (3 + w) := by
  unfold pcs
  have h1 := Nat.lt_div_mul_add (a := l + (3 + w) - 1) (b := 3 + w) (by omega)
  omega
/-- the reference's row after v pieces -/
def r_sp1 (a : Nat → Int32) (l w : Nat) : Nat → Int32 := up (up (up a 1 (a 1 - nI l)) 2 (a 2 + nI (l * w))) 6 (a 6 + nI l)
def r_sp2 (a : Nat → Int32) (l w nP v : Nat) : Nat → Int32 := fun s => if 78 + nP ≤ s ∧ s < 78 + nP + v then nI (pv l (3 + w) (s - (78 + nP))) else if s = 13 then nI (nP + v) else r_sp1 a l w s
def r_spin (a : Nat → Int32) (l w nP p n : Nat) : Nat → Int32 := up (clo (r_sp2 a l w nP (pcs l w)) (54 + 3 * p) 3 78) 12 (nI n)
theorem spin_canc (a : Nat → Int32) (l w nP p n : Nat) : r_spin a l w nP p n = r_canc (r_sp2 a l w nP (pcs l w)) p n := rfl
theorem sp2_o {a : Nat → Int32} {l w nP v s : Nat} (h : s < 78) (h13 : s ≠ 13) (h1 : s ≠ 1) (h2 : s ≠ 2) (h6 : s ≠ 6) : r_sp2 a l w nP v s = a s := by
  unfold r_sp2 r_sp1
  rw [if_neg (by omega), if_neg h13, up_ne h6, up_ne h2, up_ne h1]
theorem sp2_p {a : Nat → Int32} {l w nP v q : Nat} (h : q < nP) : r_sp2 a l w nP v (78 + q) = a (78 + q) := by
  unfold r_sp2 r_sp1
  rw [if_neg (by omega), if_neg (by omega), up_ne (by omega), up_ne (by omega), up_ne (by omega)]
theorem sp2_n {a : Nat → Int32} {l w nP v u : Nat} (h : u < v) : r_sp2 a l w nP v (78 + (nP + u)) = nI (pv l (3 + w) u) := by
  unfold r_sp2
  rw [if_pos (by omega)]
  congr 2
  omega
theorem sp2_13 {a : Nat → Int32} {l w nP v : Nat} : r_sp2 a l w nP v 13 = nI (nP + v) := by
  unfold r_sp2
  rw [if_neg (by omega), if_pos rfl]
theorem sp2_1 {a : Nat → Int32} {l w nP v : Nat} : r_sp2 a l w nP v 1 = a 1 - nI l := by
  unfold r_sp2 r_sp1
  rw [if_neg (by omega), if_neg (by omega), up_ne (by omega), up_ne (by omega), up_eq]
theorem sp2_2 {a : Nat → Int32} {l w nP v : Nat} : r_sp2 a l w nP v 2 = a 2 + nI (l * w) := by
  unfold r_sp2 r_sp1
  rw [if_neg (by omega), if_neg (by omega), up_ne (by omega), up_eq]
theorem sp2_6 {a : Nat → Int32} {l w nP v : Nat} : r_sp2 a l w nP v 6 = a 6 + nI l := by
  unfold r_sp2 r_sp1
  rw [if_neg (by omega), if_neg (by omega), up_eq]
theorem sumN_cat (p f : Nat → Nat) (n k : Nat) : sumN (fun q => if q < n then p q else f (q - n)) (n + k) = sumN p n + sumN f k := by
  induction k with
  | zero => exact sumN_cg fun q hq => if_pos hq
  | succ k ih =>
    show sumN (fun q => if q < n then p q else f (q - n)) (n + k) + (if n + k < n then p (n + k) else f (n + k - n)) = sumN p n + (sumN f k + f k)
    rw [ih, if_neg (by omega), Nat.add_sub_cancel_left, Nat.add_assoc]
theorem Fits.spin {t nB nO nP l w r : Nat} {a : Nat → Int32} (F : Fits t nB nO nP a) (hl : l ≤ 40) (hr : a 1 = nI r) (hr2 : r ≤ 999) (hlr : l ≤ r) (hk : nP + pcs l w ≤ 12) : Fits (t + 1) nB nO (nP + pcs l w) (r_sp2 a l w nP (pcs l w)) := by
  obtain ⟨⟨f1, f2, f3, f4, f5, f6⟩, g1, g2, g3, g4, g5, g6, ⟨p, p1, p2, p3⟩, g8⟩ := F
  have o : ∀ s : Nat, s < 78 → s ≠ 13 → s ≠ 1 → s ≠ 2 → s ≠ 6 → r_sp2 a l w nP (pcs l w) s = a s := fun s h h13 h1 h2 h6 => sp2_o h h13 h1 h2 h6
  have hs : sumN (pv l (3 + w)) (pcs l w) = l := by
    rw [sum_pv, if_neg (by have := pcs_hi l w; omega)]
  refine ⟨⟨f1, f2, hk, ?_, ?_, sp2_13⟩, ?_, ⟨r - l, by omega, ?_⟩, ?_, ?_, fun q hq => ?_, fun q hq => ?_, ⟨fun q => if q < nP then p q else pv l (3 + w) (q - nP), fun q hq => ?_, ?_, ?_⟩, ?_⟩
  · rw [o 11 (by omega) (by omega) (by omega) (by omega) (by omega)]; exact f4
  · rw [o 12 (by omega) (by omega) (by omega) (by omega) (by omega)]; exact f5
  · rw [o 3 (by omega) (by omega) (by omega) (by omega) (by omega)]; exact g1
  · rw [sp2_1, hr, pk_sub hlr]
  · rw [o 9 (by omega) (by omega) (by omega) (by omega) (by omega)]
    obtain ⟨i, hi, e⟩ := g3
    exact ⟨i, by omega, e⟩
  · rw [o 10 (by omega) (by omega) (by omega) (by omega) (by omega)]
    obtain ⟨i, hi, e⟩ := g4
    exact ⟨i, by omega, e⟩
  · rw [o (14 + 4 * q) (by omega) (by omega) (by omega) (by omega) (by omega), o (15 + 4 * q) (by omega) (by omega) (by omega) (by omega) (by omega), o (16 + 4 * q) (by omega) (by omega) (by omega) (by omega) (by omega), o (17 + 4 * q) (by omega) (by omega) (by omega) (by omega) (by omega)]
    obtain ⟨⟨i, hi, e⟩, z⟩ := g5 q hq
    exact ⟨⟨i, by omega, e⟩, z⟩
  · rw [o (54 + 3 * q) (by omega) (by omega) (by omega) (by omega) (by omega), o (55 + 3 * q) (by omega) (by omega) (by omega) (by omega) (by omega), o (56 + 3 * q) (by omega) (by omega) (by omega) (by omega) (by omega)]
    obtain ⟨⟨i, hi, e⟩, z⟩ := g6 q hq
    exact ⟨⟨i, by omega, e⟩, z⟩
  · by_cases c : q < nP
    · simp only [if_pos c]
      rw [sp2_p c]
      exact p1 q c
    · simp only [if_neg c]
      obtain ⟨u, rfl⟩ : ∃ u, q = nP + u := ⟨q - nP, by omega⟩
      rw [sp2_n (by omega), Nat.add_sub_cancel_left]
      refine ⟨?_, rfl⟩
      have := pcs_lo (l := l) (w := w) u (by omega)
      unfold pv
      split <;> omega
  · rw [sumN_cat, hs]
    omega
  · rw [sumN_cat, hs, sp2_6, o 8 (by omega) (by omega) (by omega) (by omega) (by omega), o 7 (by omega) (by omega) (by omega) (by omega) (by omega), ← nI_add, ← p3]
    grind
  · rw [o 0 (by omega) (by omega) (by omega) (by omega) (by omega), o 4 (by omega) (by omega) (by omega) (by omega) (by omega), o 5 (by omega) (by omega) (by omega) (by omega) (by omega)]
    exact g8
/-- the class's pieces -/
theorem w_spinLoop {nP l w k p : Nat} {σ : Mem} {Q : Int32 → Mem → Prop} {E : String → Mem → Prop} {X : Int32 → Int32 → Int32 → Mem → Prop} (hl : l ≤ 40) (hw : w ≤ 9) (hk : k = pcs l w) (hP : nP + k ≤ 12) (h9 : rd σ 0 9 1 = nI nP)
    (h : ∀ τ : Mem, (∀ f k' s : Nat, ¬ (f ≤ 1 ∧ k' = 9) → rd τ f k' s = rd σ f k' s) → τ.2 = σ.2 → rd τ 0 9 1 = nI (nP + k) → (∀ q : Nat, q < nP → rd τ 1 9 q = rd σ 1 9 q) → (∀ u : Nat, u < k → rd τ 1 9 (nP + u) = nI (pv l (3 + w) u)) → X (nI p) (nI l) (nI k) τ) :
    ∃ m : Nat, wX10_spinAt_34 0 Q E X m (nI p) (nI l) (nI (3 + w)) (nI k) 0 σ := by
  have key : ∀ (m v : Nat) (σ' : Mem), v + m = k → (∀ f k' s : Nat, ¬ (f ≤ 1 ∧ k' = 9) → rd σ' f k' s = rd σ f k' s) → σ'.2 = σ.2 → rd σ' 0 9 1 = nI (nP + v) → (∀ q : Nat, q < nP → rd σ' 1 9 q = rd σ 1 9 q) → (∀ u : Nat, u < v → rd σ' 1 9 (nP + u) = nI (pv l (3 + w) u)) → wX10_spinAt_34 0 Q E X (m + 1) (nI p) (nI l) (nI (3 + w)) (nI k) (nI v) σ' := by
    intro m
    induction m with
    | zero =>
      intro v σ' hv p1 p2 p3 p4 p5
      obtain rfl : v = k := by omega
      exact ⟨fun _ => h σ' p1 p2 p3 p4 p5, fun r => absurd (nI_le (Nat.le_refl _) (by omega)) r⟩
    | succ m ih =>
      intro v σ' hv p1 p2 p3 p4 p5
      have hlo := pcs_lo (l := l) (w := w) v (by omega)
      have ev : (if nI l - nI v * nI (3 + w) < nI (3 + w) then nI l - nI v * nI (3 + w) else nI (3 + w)) = nI (pv l (3 + w) v) := by
        rw [pk_mul, pk_sub (by omega)]
        unfold pv
        by_cases c : l - v * (3 + w) < 3 + w
        · rw [if_pos c, if_pos (nI_lt c (by omega))]
        · rw [if_neg c, if_neg (nI_nlt (by omega) (by omega))]
      refine ⟨fun r => absurd r (nI_ge (by omega) (by omega)), fun _ => ?_⟩
      rw [ev]
      refine w_add (k := 9) (n := nP + v) p3 (show nP + v < 12 by omega) (fun τ t1 t2 t3 t4 x hx => ?_)
      rw [nI_1] at hx
      subst hx
      refine ih (v + 1) τ (by omega) (fun f k' s n => (t1 f k' s n).trans (p1 f k' s n)) (t2.trans p2) t3 (fun q hq => ?_) (fun u hu => ?_)
      · rw [t4, if_neg (by omega)]
        exact p4 q hq
      · rw [t4]
        by_cases c : u = v
        · subst c
          rw [if_pos rfl]
        · rw [if_neg (by omega)]
          exact p5 u (by omega)
  exact ⟨k + 1, key k 0 σ (by omega) (fun _ _ _ _ => rfl) rfl h9 (fun _ _ => rfl) (fun u hu => absurd hu (Nat.not_lt_zero u))⟩
/-- the reference's pieces -/
theorem w_spinLoopR {nP l w k p : Nat} {a : Nat → Int32} {σ : Mem} {Q : Int32 → Mem → Prop} {E : String → Mem → Prop} {X : Int32 → Int32 → Mem → Prop} (hl : l ≤ 40) (hw : w ≤ 9) (hk : k = pcs l w) (hP : nP + k ≤ 12) (h8 : rd σ 10 8 = r_sp2 a l w nP 0)
    (h : ∀ τ : Mem, FrR σ τ → rd τ 15 0 7 = rd σ 15 0 7 → rd τ 10 8 = r_sp2 a l w nP k → X (nI p) (nI k) τ) :
    ∃ m : Nat, wX13_spins_146 Q E X m (nI p) (nI w) (nI k) (nI l) 0 σ := by
  have key : ∀ (m v : Nat) (σ' : Mem), v + m = k → FrR σ σ' → rd σ' 15 0 7 = rd σ 15 0 7 → rd σ' 10 8 = r_sp2 a l w nP v → wX13_spins_146 Q E X (m + 1) (nI p) (nI w) (nI k) (nI (l - v * (3 + w))) (nI v) σ' := by
    intro m
    induction m with
    | zero =>
      intro v σ' hv p1 p2 p3
      obtain rfl : v = k := by omega
      exact ⟨fun _ => h σ' p1 p2 p3, fun r => absurd (nI_le (Nat.le_refl _) (by omega)) r⟩
    | succ m ih =>
      intro v σ' hv p1 p2 p3
      have hlo := pcs_lo (l := l) (w := w) v (by omega)
      have e13 : rd σ' 10 8 13 = nI (nP + v) := by rw [p3]; exact sp2_13
      have row : ∀ s24 : Mem, s24 = wr (wr σ' 10 8 (78 + (nP + v)) (nI (pv l (3 + w) v))) 10 8 13 (nI (nP + v + 1)) → rd s24 10 8 = r_sp2 a l w nP (v + 1) := by
        intro s24 h24
        rw [h24, row_8, row_8, p3]
        funext s
        by_cases c : s = 13
        · subst c
          rw [up_eq, sp2_13]
          rfl
        · rw [up_ne c]
          by_cases c2 : s = 78 + (nP + v)
          · subst c2
            rw [up_eq, sp2_n (by omega)]
          · rw [up_ne c2]
            unfold r_sp2
            by_cases c3 : 78 + nP ≤ s ∧ s < 78 + nP + v
            · rw [if_pos c3, if_pos (by omega)]
            · rw [if_neg c3, if_neg c, if_neg (by omega), if_neg c]
      have fr : ∀ s24 : Mem, s24 = wr (wr σ' 10 8 (78 + (nP + v)) (nI (pv l (3 + w) v))) 10 8 13 (nI (nP + v + 1)) → FrR σ s24 ∧ rd s24 15 0 7 = rd σ 15 0 7 := by
        intro s24 h24
        rw [h24]
        exact ⟨(p1.w8 _ _).w8 _ _, by rw [th_8, th_8]; exact p2⟩
      refine ⟨fun r => absurd r (nI_ge (by omega) (by omega)), fun _ => ?_⟩
      rw [e13, show (3 : Int32) = nI 3 from rfl, nI_add, ix_pie, nI_clamp (by omega), nI_leI (by omega) (by omega)]
      refine ⟨fun c v8 hv8 => ?_, fun c => ?_⟩
      · subst hv8
        refine ⟨vp_in_nI (show 78 + (nP + v) < 90 by omega) (by decide), fun s23 h23 s24 h24 v6 hv6 v7 hv7 => ?_⟩
        have ep : pv l (3 + w) v = 3 + w := if_neg (by omega)
        rw [show rd s23 10 8 13 = nI (nP + v) by rw [h23, row_8, up_ne (by omega)]; exact e13, nI_1, h23] at h24
        rw [pk_sub c] at hv6
        rw [nI_1] at hv7
        subst hv6
        subst hv7
        rw [← ep] at h24
        rw [show l - v * (3 + w) - (3 + w) = l - (v + 1) * (3 + w) by rw [Nat.succ_mul]; omega]
        exact ih (v + 1) s24 (by omega) (fr s24 h24).1 (fr s24 h24).2 (row s24 h24)
      · refine ⟨vp_in_nI (show 78 + (nP + v) < 90 by omega) (by decide), fun s23 h23 s24 h24 v6 hv6 v7 hv7 => ?_⟩
        have ep : pv l (3 + w) v = l - v * (3 + w) := if_pos (by omega)
        rw [show rd s23 10 8 13 = nI (nP + v) by rw [h23, row_8, up_ne (by omega)]; exact e13, nI_1, h23] at h24
        rw [pk_sub (Nat.le_refl _), Nat.sub_self] at hv6
        rw [nI_1] at hv7
        subst hv6
        subst hv7
        rw [← ep] at h24
        rw [show (0 : Nat) = l - (v + 1) * (3 + w) by rw [Nat.succ_mul]; omega]
        exact ih (v + 1) s24 (by omega) (fr s24 h24).1 (fr s24 h24).2 (row s24 h24)
  refine ⟨k + 1, ?_⟩
  have := key k 0 σ (by omega) (FrR.rf σ) rfl h8
  rw [Nat.zero_mul, Nat.sub_zero] at this
  exact this
theorem op_5 {t nB nO nP : Nat} {a : Nat → Int32} (x1 : Int32) (F : Fits t nB nO nP a) : Ch 5 x1 0 0 [(4, 1), (3, 2), (2, 3)] (wX13_spins x1) t nB nO nP a := by
  have hB := F.1.1
  have hO := F.1.2.1
  have hP := F.1.2.2.1
  have e12 : a 12 = nI nO := F.1.2.2.2.2.1
  have e13 : a 13 = nI nP := F.1.2.2.2.2.2
  obtain ⟨r, hr2, hr⟩ := F.2.2.1
  rcases fst_or (fun q => a (54 + 3 * q)) x1 nO with ⟨p, hp, e1, e2⟩ | hno
  rotate_left
  · refine Or.inl ⟨4, 1, by simp, fun σ Q E S _ h => ?_, fun σ Q E ha h => ?_⟩
    · refine ⟨fun q => absurd q (by decide), fun q => absurd q (by decide), fun q => absurd q (by decide), fun q => absurd q (by decide), fun q => absurd q (by decide), fun _ => w_find_no (k := 5) (n := nO) (f := fun q => a (54 + 3 * q)) (S.rO 0 (by decide)).1 hO (S.rO 0 (by decide)).2 hno ?_, fun q => absurd q (by decide), fun q => absurd q (by decide), fun q => absurd q (by decide)⟩
      exact ⟨fun _ => ⟨fun q => absurd rfl q, fun _ => h σ (FrS.rf σ)⟩, fun q => absurd (by decide) q⟩
    · subst ha
      refine w_order_no (n := nO) e12 hO hno ⟨fun q => absurd q (by decide), fun _ => ?_⟩
      exact w_thr1 ⟨fun _ => thr_end σ (FrR.rf σ) rfl h, fun q => absurd q (by decide)⟩
  obtain ⟨-, ⟨l, hl1, hl2, hl⟩, w, hw1, hw2, hw⟩ := F.2.2.2.2.2.2.1 p hp
  have hk40 := pcs_le (w := w) hl2
  have ref : ∀ (σ : Mem) (Q : Nat → Mem → Prop) (E : String → Mem → Prop), Same σ 0 nB nO nP a → (¬ l ≤ r → Q 3 σ) → (l ≤ r → ¬ nP + pcs l w ≤ 12 → Q 2 σ) → (l ≤ r → nP + pcs l w ≤ 12 → Q 0 σ) → wX12_refusalOf 5 x1 0 0 σ Q E := by
    intro σ Q E S h3 h2 h0
    refine ⟨fun q => absurd q (by decide), fun q => absurd q (by decide), fun q => absurd q (by decide), fun q => absurd q (by decide), fun q => absurd q (by decide), fun _ => w_find_at (k := 5) (n := nO) (f := fun q => a (54 + 3 * q)) (S.rO 0 (by decide)).1 hO (S.rO 0 (by decide)).2 hp e1 e2 ?_, fun q => absurd q (by decide), fun q => absurd q (by decide), fun q => absurd q (by decide)⟩
    exact w_refSpin S hO hP hp rfl hl hw hr hl2 hw2 hr2 h3 h2 h0
  have hl' : a (54 + 3 * p + 1) = nI l := by rw [← hl]; congr 1; omega
  have hw' : a (54 + 3 * p + 2) = nI w := by rw [← hw]; congr 1; omega
  have hp8 : p < 8 := by omega
  by_cases c1 : l ≤ r
  rotate_left
  · refine Or.inl ⟨3, 2, by simp, fun σ Q E S _ h => ref σ Q E S (fun _ => h σ (FrS.rf σ)) (fun c _ => absurd c c1) (fun c _ => absurd c c1), fun σ Q E ha h => ?_⟩
    subst ha
    refine w_order_at (n := nO) e12 hO hp e1 e2 ⟨fun _ => ?_, fun q => absurd (nI_pos' (by omega)) q⟩
    refine w_thr0 ⟨fun q => absurd rfl q, fun _ => w_ofOrder (i := p) (d := 1) hp8 (by decide) rfl rfl ?_⟩
    rw [row_7, hl', hr, nI_leI (by omega) (by omega)]
    refine ⟨fun c => absurd c c1, fun _ => ?_⟩
    exact w_thr1 ⟨fun _ => thr_end _ ((FrR.rf σ).w7 0) (row_7 σ 0) h, fun q => absurd q (by decide)⟩
  by_cases c2 : nP + pcs l w ≤ 12
  rotate_left
  · refine Or.inl ⟨2, 3, by simp, fun σ Q E S _ h => ref σ Q E S (fun c => absurd c1 c) (fun _ _ => h σ (FrS.rf σ)) (fun _ c => absurd c c2), fun σ Q E ha h => ?_⟩
    subst ha
    refine w_order_at (n := nO) e12 hO hp e1 e2 ⟨fun _ => ?_, fun q => absurd (nI_pos' (by omega)) q⟩
    refine w_thr0 ⟨fun q => absurd rfl q, fun _ => w_ofOrder (i := p) (d := 1) hp8 (by decide) rfl rfl ?_⟩
    rw [row_7, hl', hr, nI_leI (by omega) (by omega)]
    refine ⟨fun _ => ?_, fun c => absurd c1 c⟩
    refine w_thr0 ⟨fun q => absurd rfl q, fun _ => w_pieces (l := l) (w := w) hp8 rfl (by rw [row_7, row_7]; exact hl') (by rw [row_7, row_7]; exact hw') hl2 hw2 ?_⟩
    rw [row_7, row_7, e13, nI_add, show (12 : Int32) = nI 12 from rfl, nI_leI (by omega) (by omega)]
    refine ⟨fun c => absurd c c2, fun _ => ?_⟩
    exact w_thr1 ⟨fun q => absurd q (by decide), fun _ => thr_end _ (((FrR.rf σ).w7 0).w7 0) ((row_7 _ 0).trans (row_7 σ 0)) h⟩
  obtain ⟨n, rfl⟩ : ∃ n, nO = n + 1 := ⟨nO - 1, by omega⟩
  have F2 := F.spin hl2 hr hr2 c1 c2
  have o : ∀ s : Nat, s ≠ 12 → (s < 54 ∨ 78 ≤ s) → r_spin a l w nP p n s = r_sp2 a l w nP (pcs l w) s := fun s h h2 => by rw [spin_canc]; exact canc_o (by omega) h h2
  have o2 : ∀ s : Nat, s < 78 → s ≠ 13 → s ≠ 1 → s ≠ 2 → s ≠ 6 → r_sp2 a l w nP (pcs l w) s = a s := fun s h h13 h1 h2 h6 => sp2_o h h13 h1 h2 h6
  refine Or.inr ⟨nB, n, nP + pcs l w, r_spin a l w nP p n, nI (pcs l w), by rw [spin_canc]; exact F2.canc hp, fun σ Q E S _ h => ref σ Q E S (fun c => absurd c1 c) (fun _ c => absurd c2 c) (fun _ _ => h σ (FrS.rf σ)), fun σ Q E S _ h => ?_, fun σ Q E ha h => ?_⟩
  · obtain ⟨z6, z3, z5, z4, z7, z8, z9, z10, z11, y2, y3⟩ := S.1
    refine ⟨fun q => absurd q (by decide), fun q => absurd q (by decide), fun q => absurd q (by decide), fun q => absurd q (by decide), fun q => absurd q (by decide), fun _ => w_find_at (k := 5) (n := n + 1) (f := fun q => a (54 + 3 * q)) (S.rO 0 (by decide)).1 hO (S.rO 0 (by decide)).2 hp e1 e2 ?_, fun q => absurd q (by decide), fun q => absurd q (by decide), fun q => absurd q (by decide)⟩
    have k6 : rd σ 1 6 p = nI l := ((S.rO 1 (by decide)).2 p hp).trans hl
    have k7 : rd σ 1 7 p = nI w := ((S.rO 2 (by decide)).2 p hp).trans hw
    refine w_get (k := 6) (n := n + 1) (S.rO 1 (by decide)).1 hp hO rfl ?_
    rw [k6]
    refine w_get (k := 7) (n := n + 1) (S.rO 2 (by decide)).1 hp hO rfl ?_
    rw [k7, show (3 : Int32) = nI 3 from rfl, nI_add]
    refine w_piecesAt (k := 0) (n := n + 1) (l := l) (w := w) (S.rO 1 (by decide)).1 (S.rO 2 (by decide)).1 hp hO hO rfl k6 k7 hl2 hw2 ?_
    refine w_spinLoop (nP := nP) hl2 hw2 rfl c2 S.2.2.2.1 (fun τ u1 u2 u3 u4 u5 => ?_)
    intro s14 h14 s15 h15
    have g15 : ∀ f k s : Nat, ¬ (f ≤ 1 ∧ k = 9) → ¬ (f = 4 ∧ k = 0 ∧ (s = 3 ∨ s = 9)) → rd s15 f k s = rd σ f k s := fun f k s m m2 => by rw [h15, rd_wr, if_neg (by omega), h14, rd_wr, if_neg (by omega), u1 f k s m]
    refine w_get (k := 8) (n := n + 1) ((g15 0 8 1 (by omega) (by omega)).trans (S.rO 3 (by decide)).1) hp hO rfl ?_
    have k8 : rd s15 1 8 p = nI (l * w) := by
      rw [g15 1 8 p (by omega) (by omega), ← pk_mul, ← hl, ← hw]
      exact (S.rO 3 (by decide)).2 p hp
    rw [k8]
    intro s18 h18
    refine w_close (n := n) rfl hp hO (fun i hi => by rw [h18, rd_wr, if_neg (by omega), g15 0 _ 1 (by omega) (by omega)]; exact (S.rO i hi).1) (fun y y1 y2' y3' => ?_)
    have gt : ∀ f k s : Nat, ¬ (f ≤ 1 ∧ 5 ≤ k ∧ k < 10) → ¬ (f = 4 ∧ k = 0 ∧ (s = 3 ∨ s = 9 ∨ s = 5)) → rd y f k s = rd σ f k s := fun f k s m m2 => by rw [y1 f k s (by omega), h18, rd_wr, if_neg (by omega), g15 f k s (by omega) (by omega)]
    have gp : ∀ f s : Nat, f ≤ 1 → rd y f 9 s = rd τ f 9 s := fun f s hf => by rw [y1 f 9 s (by omega), h18, rd_wr, if_neg (by omega), h15, rd_wr, if_neg (by omega), h14, rd_wr, if_neg (by omega)]
    refine h y ⟨fun f k s m m2 => gt f k s (by unfold SIn at m; omega) (by unfold SIn at m; omega), by rw [y2', h18, h15, h14]; show τ.2 = _; exact u2⟩ (Same.mk0 ⟨?_, ?_, ?_, ?_, ?_, ?_, ?_, ?_, ?_, ?_, ?_⟩ (fun j hj => ⟨?_, fun q hq => ?_⟩) (fun j hj => ⟨(y3' j hj).1, fun q hq => ?_⟩) ⟨?_, fun q hq => ?_⟩)
    · rw [gt 4 0 6 (by omega) (by omega), o 0 (by omega) (by omega), o2 0 (by omega) (by omega) (by omega) (by omega) (by omega)]; exact z6
    · rw [y1 4 0 3 (by omega), h18, rd_wr, if_neg (by omega), h15, rd_wr, if_neg (by omega), h14, rd_wr, if_pos ⟨rfl, rfl, rfl⟩, u1 4 0 3 (by omega), z3, o 1 (by omega) (by omega), sp2_1]
    · rw [y1 4 0 5 (by omega), h18, rd_wr, if_pos ⟨rfl, rfl, rfl⟩, g15 4 0 5 (by omega) (by omega), z5, o 2 (by omega) (by omega), sp2_2]
    · rw [gt 4 0 4 (by omega) (by omega), o 3 (by omega) (by omega), o2 3 (by omega) (by omega) (by omega) (by omega) (by omega)]; exact z4
    · rw [gt 4 0 7 (by omega) (by omega), o 4 (by omega) (by omega), o2 4 (by omega) (by omega) (by omega) (by omega) (by omega)]; exact z7
    · rw [gt 4 0 8 (by omega) (by omega), o 5 (by omega) (by omega), o2 5 (by omega) (by omega) (by omega) (by omega) (by omega)]; exact z8
    · rw [y1 4 0 9 (by omega), h18, rd_wr, if_neg (by omega), h15, rd_wr, if_pos ⟨rfl, rfl, rfl⟩, h14, rd_wr, if_neg (by omega), u1 4 0 9 (by omega), z9, o 6 (by omega) (by omega), sp2_6]
    · rw [gt 4 0 10 (by omega) (by omega), o 7 (by omega) (by omega), o2 7 (by omega) (by omega) (by omega) (by omega) (by omega)]; exact z10
    · rw [gt 4 0 11 (by omega) (by omega), o 8 (by omega) (by omega), o2 8 (by omega) (by omega) (by omega) (by omega) (by omega)]; exact z11
    · rw [gt 2 0 5 (by omega) (by omega), o 9 (by omega) (by omega), o2 9 (by omega) (by omega) (by omega) (by omega) (by omega)]; exact y2
    · rw [gt 3 0 4 (by omega) (by omega), o 10 (by omega) (by omega), o2 10 (by omega) (by omega) (by omega) (by omega) (by omega)]; exact y3
    · exact (gt 0 _ 1 (by omega) (by omega)).trans (S.rB j hj).1
    · exact (gt 1 _ q (by omega) (by omega)).trans (((S.rB j hj).2 q hq).trans (gB_cg (fun s _ _ => ((o s (by omega) (by omega)).trans (o2 s (by omega) (by omega) (by omega) (by omega) (by omega))).symm) (by omega)))
    · rw [(y3' j hj).2 q hq, h18, rd_wr, if_neg (by omega), g15 1 _ _ (by omega) (by omega), (S.rO j hj).2 _ (rm_lt hp hq), spin_canc, gO_canc hp hO hq]
      exact gO_cg (fun s _ _ => (o2 s (by omega) (by omega) (by omega) (by omega) (by omega)).symm) (by have := rm_lt hp hq; omega)
    · rw [gp 0 1 (by omega)]
      exact u3
    · rw [gp 1 q (by omega), o (78 + q) (by omega) (by omega)]
      by_cases c : q < nP
      · rw [u4 q c, sp2_p c]
        exact S.2.2.2.2.2.2 q c
      · obtain ⟨u, rfl⟩ : ∃ u, q = nP + u := ⟨q - nP, by omega⟩
        rw [u5 u (by omega), sp2_n (by omega)]
  · subst ha
    refine w_order_at (n := n + 1) e12 hO hp e1 e2 ⟨fun _ => ?_, fun q => absurd (nI_pos' (by omega)) q⟩
    refine w_thr0 ⟨fun q => absurd rfl q, fun _ => w_ofOrder (i := p) (d := 1) hp8 (by decide) rfl rfl ?_⟩
    rw [row_7, hl', hr, nI_leI (by omega) (by omega)]
    refine ⟨fun _ => ?_, fun c => absurd c1 c⟩
    refine w_thr0 ⟨fun q => absurd rfl q, fun _ => w_pieces (l := l) (w := w) hp8 rfl (by rw [row_7, row_7]; exact hl') (by rw [row_7, row_7]; exact hw') hl2 hw2 ?_⟩
    rw [row_7, row_7, e13, nI_add, show (12 : Int32) = nI 12 from rfl, nI_leI (by omega) (by omega)]
    refine ⟨fun _ => ?_, fun c => absurd c2 c⟩
    refine w_thr0 ⟨fun _ => ?_, fun q => absurd rfl q⟩
    have hrow : rd (wr (wr (wr σ 15 0 7 0) 15 0 7 0) 15 0 7 0) 10 8 = rd σ 10 8 := by rw [row_7, row_7, row_7]
    refine w_ofOrder (i := p) (d := 1) hp8 (by decide) rfl rfl ?_
    refine w_ofOrder (i := p) (d := 2) hp8 (by decide) rfl rfl ?_
    rw [hrow, hl', hw']
    refine w_pieces (l := l) (w := w) hp8 rfl (by rw [hrow]; exact hl') (by rw [hrow]; exact hw') hl2 hw2 ?_
    intro s19 h19 s20 h20 s21 h21
    have er : rd s21 10 8 = r_sp2 (rd σ 10 8) l w nP 0 := by
      rw [h21, row_8, h20, row_8, h19, row_8, hrow, pk_mul]
      repeat (first | rw [up_ne (by omega)] | rw [up_eq])
      funext s
      unfold r_sp2
      rw [if_neg (by omega)]
      by_cases c : s = 13
      · rw [if_pos c, c, up_ne (by omega), up_ne (by omega), up_ne (by omega)]
        exact e13
      · rw [if_neg c]
        rfl
    refine w_spinLoopR (a := rd σ 10 8) hl2 hw2 rfl c2 er (fun τ u1 u2 u3 => ?_)
    refine w_closes (F := 54 + 3 * p) (M := 3) (Z := 78) (ix_ord p) rfl rfl (by omega) (by omega) (by omega) (fun y y1 y2 y3 => ?_)
    intro s36 h36
    have k12 : rd y 10 8 12 = nI (n + 1) := by rw [y3, clo_lt (by omega) (by omega), u3, o2 12 (by omega) (by omega) (by omega) (by omega) (by omega), e12]
    rw [k12, nI_pred] at h36
    refine h s36 ?_ ?_ ?_
    · rw [h36]
      refine FrR.w8 (FrR.tr (FrR.tr ?_ u1) y1) _ _
      rw [h21, h20, h19]
      exact ((((((FrR.rf σ).w7 0).w7 0).w7 0).w8 _ _).w8 _ _).w8 _ _
    · rw [h36, row_8, y3, u3]
      rfl
    · rw [h36, th_8, y2 15 0 7 (by omega), u2, h21, th_8, h20, th_8, h19, th_8, th_at]
