/-! AN ORDER CANCELLED -/
theorem clo_lt {a : Nat → Int32} {F M Z s : Nat} (h : s < F) (hF : F ≤ Z - M) : clo a F M Z s = a s := by
  unfold clo
  rw [if_neg (by omega), if_neg (by omega)]
theorem clo_ge {a : Nat → Int32} {F M Z s : Nat} (h : Z ≤ s) : clo a F M Z s = a s := by
  unfold clo
  rw [if_neg (by omega), if_neg (by omega)]
theorem clo_in {a : Nat → Int32} {F M Z s : Nat} (h : F ≤ s) (h2 : s < Z - M) : clo a F M Z s = a (s + M) := by
  unfold clo
  rw [if_pos ⟨h, h2⟩]
def r_canc (a : Nat → Int32) (p n : Nat) : Nat → Int32 := up (clo a (54 + 3 * p) 3 78) 12 (nI n)
/-- what is left behind a place -/
def rm (p q : Nat) : Nat := if q < p then q else q + 1
theorem canc_o {a : Nat → Int32} {p n : Nat} (hp : p < 8) {s : Nat} (h : s ≠ 12) (h2 : s < 54 ∨ 78 ≤ s) : r_canc a p n s = a s := by
  unfold r_canc
  rw [up_ne h]
  rcases h2 with c | c
  · exact clo_lt (by omega) (by omega)
  · exact clo_ge c
theorem canc_q {a : Nat → Int32} {p n q d : Nat} (hp : p < n + 1) (hn : n + 1 ≤ 8) (hq : q < n) (hd : d < 3) : r_canc a p n (54 + d + 3 * q) = a (54 + d + 3 * rm p q) := by
  unfold r_canc
  rw [up_ne (by omega)]
  unfold rm
  by_cases c : q < p
  · rw [if_pos c]
    exact clo_lt (by omega) (by omega)
  · rw [if_neg c, clo_in (by omega) (by omega)]
    exact congrArg a (by omega)
theorem rm_lt {p q n : Nat} (hp : p < n + 1) (hq : q < n) : rm p q < n + 1 := by
  unfold rm
  split <;> omega
theorem gO_canc {a : Nat → Int32} {p n q i : Nat} (hp : p < n + 1) (hn : n + 1 ≤ 8) (hq : q < n) : gO (r_canc a p n) i q = gO a i (rm p q) := by
  match i with
  | 0 => exact canc_q (d := 0) hp hn hq (by decide)
  | 1 => exact canc_q (d := 1) hp hn hq (by decide)
  | 2 => exact canc_q (d := 2) hp hn hq (by decide)
  | i + 3 =>
    have h1 : r_canc a p n (55 + 3 * q) = a (55 + 3 * rm p q) := canc_q (d := 1) hp hn hq (by decide)
    have h2 : r_canc a p n (56 + 3 * q) = a (56 + 3 * rm p q) := canc_q (d := 2) hp hn hq (by decide)
    show r_canc a p n (55 + 3 * q) * r_canc a p n (56 + 3 * q) = a (55 + 3 * rm p q) * a (56 + 3 * rm p q)
    rw [h1, h2]
theorem Fits.canc {t nB n nP p : Nat} {a : Nat → Int32} (hp : p < n + 1) (F : Fits t nB (n + 1) nP a) : Fits t nB n nP (r_canc a p n) := by
  obtain ⟨⟨f1, f2, f3, f4, f5, f6⟩, g1, g2, g3, g4, g5, g6, ⟨z, p1, p2, p3⟩, g8⟩ := F
  have o : ∀ s : Nat, s ≠ 12 → (s < 54 ∨ 78 ≤ s) → r_canc a p n s = a s := fun s h h2 => canc_o (by omega) h h2
  refine ⟨⟨f1, by omega, f3, ?_, up_eq _ _ _, ?_⟩, ?_, ?_, ?_, ?_, fun q hq => ?_, fun q hq => ?_, ⟨z, fun q hq => ?_, p2, ?_⟩, ?_⟩
  · rw [o 11 (by omega) (by omega)]; exact f4
  · rw [o 13 (by omega) (by omega)]; exact f6
  · rw [o 3 (by omega) (by omega)]; exact g1
  · rw [o 1 (by omega) (by omega)]; exact g2
  · rw [o 9 (by omega) (by omega)]; exact g3
  · rw [o 10 (by omega) (by omega)]; exact g4
  · rw [o (14 + 4 * q) (by omega) (by omega), o (15 + 4 * q) (by omega) (by omega), o (16 + 4 * q) (by omega) (by omega), o (17 + 4 * q) (by omega) (by omega)]
    exact g5 q hq
  · have h0 : r_canc a p n (54 + 3 * q) = a (54 + 3 * rm p q) := canc_q (d := 0) hp f2 hq (by decide)
    have h1 : r_canc a p n (55 + 3 * q) = a (55 + 3 * rm p q) := canc_q (d := 1) hp f2 hq (by decide)
    have h2 : r_canc a p n (56 + 3 * q) = a (56 + 3 * rm p q) := canc_q (d := 2) hp f2 hq (by decide)
    rw [h0, h1, h2]
    exact g6 _ (rm_lt hp hq)
  · rw [o (78 + q) (by omega) (by omega)]; exact p1 q hq
  · rw [o 6 (by omega) (by omega), o 8 (by omega) (by omega), o 7 (by omega) (by omega)]; exact p3
  · rw [o 0 (by omega) (by omega), o 4 (by omega) (by omega), o 5 (by omega) (by omega)]; exact g8
/-- the class takes an order out -/
theorem w_close {n p : Nat} {x : Int32} {σ : Mem} {Q : Int32 → Mem → Prop} {E : String → Mem → Prop} (hx : x = nI p) (hp : p < n + 1) (hn : n + 1 ≤ 8) (hs : ∀ i : Nat, i < 4 → rd σ 0 (5 + i) 1 = nI (n + 1))
    (h : ∀ τ : Mem, (∀ f k s : Nat, ¬ (f ≤ 1 ∧ 5 ≤ k ∧ k < 9) → rd τ f k s = rd σ f k s) → τ.2 = σ.2 → (∀ i : Nat, i < 4 → rd τ 0 (5 + i) 1 = nI n ∧ ∀ q : Nat, q < n → rd τ 1 (5 + i) q = rd σ 1 (5 + i) (rm p q)) → Q (nI n) τ) : wX5_close 0 x σ Q E := by
  subst hx
  unfold wX5_close
  refine PM.rem (b := 5) (i := 0) (n := n) (g := fun i q => rd σ 1 (5 + i) (rm p q)) hn hp (hs 0 (by decide)) (fun q hq => rfl) (PM.rf σ 5 _ _) (fun t0 P0 => ?_)
  refine PM.rem (b := 5) (i := 1) (n := n) (g := fun i q => rd σ 1 (5 + i) (rm p q)) hn hp (hs 1 (by decide)) (fun q hq => rfl) P0 (fun t1 P1 => ?_)
  refine PM.rem (b := 5) (i := 2) (n := n) (g := fun i q => rd σ 1 (5 + i) (rm p q)) hn hp (hs 2 (by decide)) (fun q hq => rfl) P1 (fun t2 P2 => ?_)
  refine PM.rem (b := 5) (i := 3) (n := n) (g := fun i q => rd σ 1 (5 + i) (rm p q)) hn hp (hs 3 (by decide)) (fun q hq => rfl) P2 (fun t3 P3 => ?_)
  show Q (rd t3 0 5 1) t3
  rw [show rd t3 0 5 1 = nI n from (P3.2.1 0 (by decide)).1]
  exact h t3 P3.1 P3.2.2 P3.2.1
theorem op_3 {t nB nO nP : Nat} {a : Nat → Int32} (x1 : Int32) (F : Fits t nB nO nP a) : Ch 3 x1 0 0 [(4, 1)] (wX13_cancels x1) t nB nO nP a := by
  have hB := F.1.1
  have hO := F.1.2.1
  have hP := F.1.2.2.1
  have e12 : a 12 = nI nO := F.1.2.2.2.2.1
  rcases fst_or (fun q => a (54 + 3 * q)) x1 nO with ⟨p, hp, e1, e2⟩ | hno
  rotate_left
  · refine Or.inl ⟨4, 1, by simp, fun σ Q E S _ h => ?_, fun σ Q E ha h => ?_⟩
    · exact ⟨fun q => absurd q (by decide), fun q => absurd q (by decide), fun q => absurd q (by decide), fun _ => w_find_no (k := 5) (n := nO) (f := fun q => a (54 + 3 * q)) (S.rO 0 (by decide)).1 hO (S.rO 0 (by decide)).2 hno ⟨fun _ => ⟨fun _ => h σ (FrS.rf σ), fun q => absurd rfl q⟩, fun q => absurd (by decide) q⟩, fun q => absurd q (by decide), fun q => absurd q (by decide), fun q => absurd q (by decide), fun q => absurd q (by decide), fun q => absurd q (by decide)⟩
    · subst ha
      refine w_order_no (n := nO) e12 hO hno ⟨fun q => absurd q (by decide), fun _ => ?_⟩
      exact w_thr1 ⟨fun q => absurd q (by decide), fun _ => thr_end σ (FrR.rf σ) rfl h⟩
  obtain ⟨n, rfl⟩ : ∃ n, nO = n + 1 := ⟨nO - 1, by omega⟩
  refine Or.inr ⟨nB, n, nP, r_canc a p n, nI n, (F.mono (Nat.le_succ t)).canc hp, fun σ Q E S _ h => ?_, fun σ Q E S _ h => ?_, fun σ Q E ha h => ?_⟩
  · refine ⟨fun q => absurd q (by decide), fun q => absurd q (by decide), fun q => absurd q (by decide), fun _ => w_find_at (k := 5) (n := n + 1) (f := fun q => a (54 + 3 * q)) (S.rO 0 (by decide)).1 hO (S.rO 0 (by decide)).2 hp e1 e2 ?_, fun q => absurd q (by decide), fun q => absurd q (by decide), fun q => absurd q (by decide), fun q => absurd q (by decide), fun q => absurd q (by decide)⟩
    exact w_has (k := 5) (n := n + 1) (by omega) (S.rO 0 (by decide)).1 (fun _ _ _ => ⟨fun q => absurd q (by decide), fun _ => h σ (FrS.rf σ)⟩) (fun hb => absurd hb (no_ix hp (by omega) rfl))
  · refine ⟨fun q => absurd q (by decide), fun q => absurd q (by decide), fun q => absurd q (by decide), fun _ => w_find_at (k := 5) (n := n + 1) (f := fun q => a (54 + 3 * q)) (S.rO 0 (by decide)).1 hO (S.rO 0 (by decide)).2 hp e1 e2 ?_, fun q => absurd q (by decide), fun q => absurd q (by decide), fun q => absurd q (by decide), fun q => absurd q (by decide), fun q => absurd q (by decide)⟩
    refine w_close rfl hp hO (fun i hi => (S.rO i hi).1) (fun τ u1 u2 u3 => ?_)
    obtain ⟨z6, z3, z5, z4, z7, z8, z9, z10, z11, y2, y3⟩ := S.1
    have o : ∀ s : Nat, s ≠ 12 → (s < 54 ∨ 78 ≤ s) → r_canc a p n s = a s := fun s h h2 => canc_o (by omega) h h2
    refine h τ ⟨fun f k s m m2 => u1 f k s (by unfold SIn at m; omega), u2⟩ (Same.mk0 ⟨?_, ?_, ?_, ?_, ?_, ?_, ?_, ?_, ?_, ?_, ?_⟩ (fun i hi => ⟨?_, fun q hq => ?_⟩) (fun i hi => ⟨(u3 i hi).1, fun q hq => ?_⟩) ⟨?_, fun q hq => ?_⟩)
    · rw [u1 4 0 6 (by omega), o 0 (by omega) (by omega)]; exact z6
    · rw [u1 4 0 3 (by omega), o 1 (by omega) (by omega)]; exact z3
    · rw [u1 4 0 5 (by omega), o 2 (by omega) (by omega)]; exact z5
    · rw [u1 4 0 4 (by omega), o 3 (by omega) (by omega)]; exact z4
    · rw [u1 4 0 7 (by omega), o 4 (by omega) (by omega)]; exact z7
    · rw [u1 4 0 8 (by omega), o 5 (by omega) (by omega)]; exact z8
    · rw [u1 4 0 9 (by omega), o 6 (by omega) (by omega)]; exact z9
    · rw [u1 4 0 10 (by omega), o 7 (by omega) (by omega)]; exact z10
    · rw [u1 4 0 11 (by omega), o 8 (by omega) (by omega)]; exact z11
    · rw [u1 2 0 5 (by omega), o 9 (by omega) (by omega)]; exact y2
    · rw [u1 3 0 4 (by omega), o 10 (by omega) (by omega)]; exact y3
    · exact (u1 0 _ 1 (by omega)).trans (S.rB i hi).1
    · exact (u1 1 _ q (by omega)).trans (((S.rB i hi).2 q hq).trans (gB_cg (fun s _ _ => (o s (by omega) (by omega)).symm) (by omega)))
    · rw [(u3 i hi).2 q hq, (S.rO i hi).2 _ (rm_lt hp hq), gO_canc hp hO hq]
    · exact (u1 0 9 1 (by omega)).trans S.2.2.2.1
    · rw [u1 1 9 q (by omega), o (78 + q) (by omega) (by omega)]
      exact S.2.2.2.2.2.2 q hq
  · subst ha
    refine w_order_at (n := n + 1) e12 hO hp e1 e2 ⟨fun _ => ?_, fun q => absurd (nI_pos' (by omega)) q⟩
    refine w_thr0 ⟨fun _ => ?_, fun q => absurd rfl q⟩
    refine w_closes (F := 54 + 3 * p) (M := 3) (Z := 78) (ix_ord p) rfl rfl (by omega) (by omega) (by omega) (fun τ u1 u2 u3 => ?_)
    intro s7 h7
    have k12 : rd τ 10 8 12 = nI (n + 1) := by rw [u3, clo_lt (by omega) (by omega), row_7, e12]
    rw [k12, nI_pred] at h7
    have e : rd s7 10 8 = r_canc (rd σ 10 8) p n := by
      rw [h7, row_8, u3, row_7]
      rfl
    rw [show rd s7 10 8 12 = nI n by rw [e]; exact up_eq _ _ _]
    refine h s7 ?_ e ?_
    · rw [h7]
      exact (((FrR.rf σ).w7 0).tr u1).w8 _ _
    · rw [h7, th_8, u2 15 0 7 (by omega), th_at]
