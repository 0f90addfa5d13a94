/-! A CHANGE: what the class does, what the reference does, and the invariant behind both -/
def scr (f k s : Nat) : Prop := f = 7 ∨ f = 8 ∨ f = 9 ∨ (f = 10 ∧ k < 7 ∧ ¬ (k < 4 ∧ s = 0)) ∨ (f ≤ 1 ∧ 110 ≤ k)
def FrS (σ τ : Mem) : Prop := (∀ f k s : Nat, ¬ scr f k s → rd τ f k s = rd σ f k s) ∧ τ.2 = σ.2
def FrC (σ τ : Mem) : Prop := (∀ f k s : Nat, ¬ SIn 0 f k → ¬ scr f k s → rd τ f k s = rd σ f k s) ∧ τ.2 = σ.2
def FrR (σ τ : Mem) : Prop := (∀ f k s : Nat, ¬ (f = 10 ∧ (k = 8 ∨ k = 13)) → ¬ (f = 15 ∧ k = 0 ∧ s = 7) → rd τ f k s = rd σ f k s) ∧ τ.2 = σ.2
theorem FrS.rf (σ : Mem) : FrS σ σ := ⟨fun _ _ _ _ => rfl, rfl⟩
theorem FrC.rf (σ : Mem) : FrC σ σ := ⟨fun _ _ _ _ _ => rfl, rfl⟩
theorem FrR.rf (σ : Mem) : FrR σ σ := ⟨fun _ _ _ _ _ => rfl, rfl⟩
theorem FrS.tr {σ τ u : Mem} (h1 : FrS σ τ) (h2 : FrS τ u) : FrS σ u := ⟨fun f k s n => (h2.1 f k s n).trans (h1.1 f k s n), h2.2.trans h1.2⟩
theorem FrC.tr {σ τ u : Mem} (h1 : FrC σ τ) (h2 : FrC τ u) : FrC σ u := ⟨fun f k s n m => (h2.1 f k s n m).trans (h1.1 f k s n m), h2.2.trans h1.2⟩
theorem FrR.tr {σ τ u : Mem} (h1 : FrR σ τ) (h2 : FrR τ u) : FrR σ u := ⟨fun f k s n m => (h2.1 f k s n m).trans (h1.1 f k s n m), h2.2.trans h1.2⟩
theorem FrS.c {σ τ : Mem} (h : FrS σ τ) : FrC σ τ := ⟨fun f k s _ m => h.1 f k s m, h.2⟩
theorem FrS.same {σ τ : Mem} {k nB nO nP : Nat} {a : Nat → Int32} (hk : k < 11) (h : FrS σ τ) (S : Same σ k nB nO nP a) : Same τ k nB nO nP a := S.on fun f k' s hh => h.1 f k' s (by unfold SIn at hh; unfold scr; omega)
theorem FrS.w {σ τ : Mem} {f k s : Nat} {v : Int32} (h : FrS σ τ) (hs : scr f k s) : FrS σ (wr τ f k s v) := ⟨fun f' k' s' n => by
  rw [rd_wr, if_neg (by rintro ⟨rfl, rfl, rfl⟩; exact n hs)]
  exact h.1 f' k' s' n, h.2⟩
theorem FrC.w {σ τ : Mem} {f k s : Nat} {v : Int32} (h : FrC σ τ) (hs : SIn 0 f k) : FrC σ (wr τ f k s v) := ⟨fun f' k' s' n m => by
  rw [rd_wr, if_neg (by rintro ⟨rfl, rfl, -⟩; exact n hs)]
  exact h.1 f' k' s' n m, h.2⟩
theorem FrR.w {σ τ : Mem} {f k s : Nat} {v : Int32} (h : FrR σ τ) (hs : (f = 10 ∧ (k = 8 ∨ k = 13)) ∨ (f = 15 ∧ k = 0 ∧ s = 7)) : FrR σ (wr τ f k s v) := ⟨fun f' k' s' n m => by
  rw [rd_wr, if_neg (by rintro ⟨rfl, rfl, rfl⟩; exact hs.elim n m)]
  exact h.1 f' k' s' n m, h.2⟩
/-- a row with one cell changed -/
def up (a : Nat → Int32) (i : Nat) (v : Int32) : Nat → Int32 := fun s => if s = i then v else a s
theorem up_eq (a : Nat → Int32) (i : Nat) (v : Int32) : up a i v i = v := if_pos rfl
theorem up_ne {a : Nat → Int32} {i : Nat} {v : Int32} {s : Nat} (h : s ≠ i) : up a i v s = a s := if_neg h
theorem row_8 (σ : Mem) (i : Nat) (v : Int32) : rd (wr σ 10 8 i v) 10 8 = up (rd σ 10 8) i v := by
  funext s
  rw [rd_wr]
  unfold up
  by_cases e : s = i
  · rw [if_pos ⟨rfl, rfl, e⟩, if_pos e]
  · rw [if_neg (by omega), if_neg e]
theorem row_7 (σ : Mem) (v : Int32) : rd (wr σ 15 0 7 v) 10 8 = rd σ 10 8 := funext fun s => by rw [rd_wr, if_neg (by omega)]
theorem Fits.mono {t t' nB nO nP : Nat} {a : Nat → Int32} (ht : t ≤ t') : Fits t nB nO nP a → Fits t' nB nO nP a := by
  rintro ⟨f1, f2, f3, ⟨i4, f4, f4'⟩, ⟨i5, f5, f5'⟩, f6, f7, ⟨p, p1, p2, p3⟩, f8⟩
  refine ⟨f1, f2, f3, ⟨i4, by omega, f4'⟩, ⟨i5, by omega, f5'⟩, fun q hq => ?_, fun q hq => ?_, ⟨p, p1, by omega, p3⟩, f8⟩
  · obtain ⟨⟨i, hi, e⟩, z⟩ := f6 q hq
    exact ⟨⟨i, by omega, e⟩, z⟩
  · obtain ⟨⟨i, hi, e⟩, z⟩ := f7 q hq
    exact ⟨⟨i, by omega, e⟩, z⟩
theorem StOk.mono {t t' k : Nat} {σ : Mem} {a : Nat → Int32} (ht : t ≤ t') : StOk t σ k a → StOk t' σ k a := fun ⟨nB, nO, nP, F, S⟩ => ⟨nB, nO, nP, F.mono ht, S⟩
/-- the invariant behind a change that was recorded -/
theorem inv_rec {t t' nT nT' nL nC nx : Nat} {σ σf : Mem} (I : InvT t nT nL nC nx σ) (ht : t ≤ t') (hT' : nT' ≤ 60)
    (g : ∀ f k s : Nat, ¬ SIn 0 f k → ¬ SIn 1 f k → ¬ SIn (3 + nx) f k → ¬ scr f k s → ¬ (f = 5 ∧ k = 0 ∧ (s = 1 ∨ s = 2)) → ¬ (f = 10 ∧ (k = 7 ∨ k = 8 ∨ k = 9 ∨ k = 11 ∨ k = 13 ∨ k = 16)) → ¬ (f = 15 ∧ k = 0 ∧ ¬ (s = 8 ∨ s = 9 ∨ s = 12 ∨ s = 14)) → ¬ (f = 11 ∨ f = 12) → ¬ (f = 13 ∧ k = 0) → rd σf f k s = rd σ f k s)
    (h2 : σf.2.2.1 = σ.2.2.1) (k1 : rd σf 5 0 1 = nI ((nx + 1) % 8)) (k2 : rd σf 5 0 2 = nI (cN nC)) (k6 : rd σf 15 0 6 = nI (cN nC))
    (S0 : StOk t' σf 0 (rd σf 10 8)) (SR : StOk t' σf (3 + nx) (rd σ 10 8))
    (P1 : ∀ i q : Nat, i + 1 < cN nC → q < 90 → rd σf 10 11 (90 * i + q) = rd σ 10 11 (90 * (i + (if nC = 8 then 1 else 0)) + q))
    (P2 : ∀ q : Nat, q < 90 → rd σf 10 11 (90 * (cN nC - 1) + q) = rd σ 10 8 q)
    (T : Txt σf 0 nT' (rd σf 10 15)) (T7 : rd σf 15 0 17 = nI nT') : InvT t' nT' nL (cN nC) ((nx + 1) % 8) σf := by
  obtain ⟨hN, hst, h3, ⟨h4, h5, h6, h7⟩, h8, h9, h10, h11, hZ⟩ := I
  have g10 : rd σf 10 10 = rd σ 10 10 := funext fun s => g 10 10 s (by unfold SIn; omega) (by unfold SIn; omega) (by unfold SIn; omega) (by unfold scr; omega) (by omega) (by omega) (by omega) (by omega) (by omega)
  have gs : ∀ k : Nat, k < 11 → k ≠ 0 → k ≠ 1 → k ≠ 3 + nx → ∀ f k' s : Nat, SIn k f k' → rd σf f k' s = rd σ f k' s := by
    intro k hk n0 n1 n2 f k' s hh
    unfold SIn at hh
    exact g f k' s (by unfold SIn; omega) (by unfold SIn; omega) (by unfold SIn; omega) (by unfold scr; omega) (by omega) (by omega) (by omega) (by omega) (by omega)
  have gx : ∀ s : Nat, s = 8 ∨ s = 9 ∨ s = 12 ∨ s = 14 → rd σf 15 0 s = rd σ 15 0 s := fun s hs => g 15 0 s (by unfold SIn; omega) (by unfold SIn; omega) (by unfold SIn; omega) (by unfold scr; omega) (by omega) (by omega) (by omega) (by omega) (by omega)
  have gy : ∀ s : Nat, rd σf 14 0 s = rd σ 14 0 s := fun s => g 14 0 s (by unfold SIn; omega) (by unfold SIn; omega) (by unfold SIn; omega) (by unfold scr; omega) (by omega) (by omega) (by omega) (by omega) (by omega)
  have hc8 : cN nC ≤ 8 ∧ cN nC = nC + 1 - (if nC = 8 then 1 else 0) := by
    unfold cN
    split <;> omega
  refine ⟨⟨hT', hN.2.1, hc8.1, Nat.mod_lt _ (by decide)⟩, S0, ⟨?_, ?_⟩, ⟨k1, k2, k6, fun i hi => ?_⟩, ?_, ?_, ⟨?_, ?_⟩, ⟨T, T7⟩, fun k hk => ?_, fun m hm => ?_⟩
  · rw [gy, gx 12 (by omega)]
    exact h3.1
  · rw [gx 12 (by omega)]
    exact h3.2.imp id fun z => ⟨z.1, (StOk.on (gs 2 (by decide) (by decide) (by decide) (by omega)) (fun i _ => by rw [g10]) z.2).mono ht⟩
  · by_cases e : i + 1 = cN nC
    · rw [show 3 + ((nx + 1) % 8 + 8 - cN nC + i) % 8 = 3 + nx by omega]
      refine StOk.on (fun _ _ _ _ => rfl) (fun q hq => ?_) SR
      show rd σf 10 11 (90 * i + q) = _
      rw [show i = cN nC - 1 by omega]
      exact P2 q hq
    · obtain ⟨d, hd⟩ : ∃ d : Nat, d = if nC = 8 then 1 else 0 := ⟨_, rfl⟩
      have hd1 : d ≤ 1 ∧ (nC = 8 → d = 1) ∧ (nC ≠ 8 → d = 0) := by
        rw [hd]
        refine ⟨by split <;> omega, fun z => if_pos z, fun z => if_neg z⟩
      rw [← hd] at hc8
      have q := h7 (i + d) (by omega)
      rw [show 3 + (nx + 8 - nC + (i + d)) % 8 = 3 + ((nx + 1) % 8 + 8 - cN nC + i) % 8 by omega] at q
      refine (StOk.on (gs _ (by omega) (by omega) (by omega) (by omega)) (fun q' hq' => ?_) q).mono ht
      show rd σf 10 11 (90 * i + q') = rd σ 10 11 (90 * (i + d) + q')
      rw [hd]
      exact P1 i q' (by omega) hq'
  · rw [gy, gx 8 (by omega)]
    exact h8
  · rw [gy, gx 9 (by omega)]
    exact h9
  · exact h10.1.on (fun s => g 13 1 s (by unfold SIn; omega) (by unfold SIn; omega) (by unfold SIn; omega) (by unfold scr; omega) (by omega) (by omega) (by omega) (by omega) (by omega)) (fun s => g 16 1 s (by unfold SIn; omega) (by unfold SIn; omega) (by unfold SIn; omega) (by unfold scr; omega) (by omega) (by omega) (by omega) (by omega) (by omega)) h2 (fun i => g 10 14 i (by unfold SIn; omega) (by unfold SIn; omega) (by unfold SIn; omega) (by unfold scr; omega) (by omega) (by omega) (by omega) (by omega) (by omega))
  · rw [gx 14 (by omega)]
    exact h10.2
  · exact (g 10 k 0 (by unfold SIn; omega) (by unfold SIn; omega) (by unfold SIn; omega) (by unfold scr; omega) (by omega) (by omega) (by omega) (by omega) (by omega)).trans (hZ.1 k hk)
  · exact (g 10 12 m (by unfold SIn; omega) (by unfold SIn; omega) (by unfold SIn; omega) (by unfold scr; omega) (by omega) (by omega) (by omega) (by omega) (by omega)).trans (hZ.2 m hm)
