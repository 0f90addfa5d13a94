/-! A CHANGE: what the class does, what the reference does, and the invariant behind both -/
def scc (f k s : Nat) : Prop := f = 7 ∨ f = 8 ∨ f = 9 ∨ (f = 10 ∧ k < 7 ∧ ¬ (k < 4 ∧ s = 0)) ∨ (f ≤ 1 ∧ 110 ≤ k)
def FrS (σ τ : Mem) : Prop := (∀ f k s : Nat, ¬ scc f k s → rd τ f k s = rd σ f k s) ∧ τ.2 = σ.2
def FrC (σ τ : Mem) : Prop := (∀ f k s : Nat, ¬ SIn 0 f k → ¬ scc f k s → rd τ f k s = rd σ f k s) ∧ τ.2 = σ.2
theorem FrS.rf (σ : Mem) : FrS σ σ := ⟨fun _ _ _ _ => rfl, rfl⟩
theorem FrC.rf (σ : Mem) : FrC σ σ := ⟨fun _ _ _ _ _ => rfl, rfl⟩
theorem FrS.tr {σ τ u : Mem} (h1 : FrS σ τ) (h2 : FrS τ u) : FrS σ u := ⟨fun f k s n => (h2.1 f k s n).trans (h1.1 f k s n), h2.2.trans h1.2⟩
theorem FrC.tr {σ τ u : Mem} (h1 : FrC σ τ) (h2 : FrC τ u) : FrC σ u := ⟨fun f k s n m => (h2.1 f k s n m).trans (h1.1 f k s n m), h2.2.trans h1.2⟩
theorem FrS.c {σ τ : Mem} (h : FrS σ τ) : FrC σ τ := ⟨fun f k s _ m => h.1 f k s m, h.2⟩
theorem FrS.same {σ τ : Mem} {k nB nO nP : Nat} {a : Nat → Int32} (hk : k < 11) (h : FrS σ τ) (S : Same σ k nB nO nP a) : Same τ k nB nO nP a := S.on fun f k' s hh => h.1 f k' s (by unfold SIn at hh; unfold scc; omega)
theorem FrS.w {σ τ : Mem} {f k s : Nat} {v : Int32} (h : FrS σ τ) (hs : scc f k s) : FrS σ (wr τ f k s v) := ⟨fun f' k' s' n => by
  rw [rd_wr, if_neg (by rintro ⟨rfl, rfl, rfl⟩; exact n hs)]
  exact h.1 f' k' s' n, h.2⟩
theorem FrC.w {σ τ : Mem} {f k s : Nat} {v : Int32} (h : FrC σ τ) (hs : SIn 0 f k) : FrC σ (wr τ f k s v) := ⟨fun f' k' s' n m => by
  rw [rd_wr, if_neg (by rintro ⟨rfl, rfl, -⟩; exact n hs)]
  exact h.1 f' k' s' n m, h.2⟩
/-- a row with one cell changed -/
def up (a : Nat → Int32) (i : Nat) (v : Int32) : Nat → Int32 := fun s => if s = i then v else a s
theorem up_eq (a : Nat → Int32) (i : Nat) (v : Int32) : up a i v i = v := if_pos rfl
theorem up_ne {a : Nat → Int32} {i : Nat} {v : Int32} {s : Nat} (h : s ≠ i) : up a i v s = a s := if_neg h
theorem Fits.mono {t t' nB nO nP : Nat} {a : Nat → Int32} (ht : t ≤ t') : Fits t nB nO nP a → Fits t' nB nO nP a := by
  rintro ⟨f1, f2, f3, ⟨i4, f4, f4'⟩, ⟨i5, f5, f5'⟩, f6, f7, ⟨p, p1, p2, p3⟩, f8⟩
  refine ⟨f1, f2, f3, ⟨i4, by omega, f4'⟩, ⟨i5, by omega, f5'⟩, fun q hq => ?_, fun q hq => ?_, ⟨p, p1, by omega, p3⟩, f8⟩
  · obtain ⟨⟨i, hi, e⟩, z⟩ := f6 q hq
    exact ⟨⟨i, by omega, e⟩, z⟩
  · obtain ⟨⟨i, hi, e⟩, z⟩ := f7 q hq
    exact ⟨⟨i, by omega, e⟩, z⟩
theorem StOk.mono {t t' k : Nat} {σ : Mem} {a : Nat → Int32} (ht : t ≤ t') : StOk t σ k a → StOk t' σ k a := fun ⟨nB, nO, nP, F, S⟩ => ⟨nB, nO, nP, F.mono ht, S⟩
