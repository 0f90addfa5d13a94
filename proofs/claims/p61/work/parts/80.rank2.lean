/-! RANKS OF ORDERS -/
theorem neg_toInt {x : Nat} (h : x < 2 ^ 30) : (-(nI x)).toInt = -(x : Int) := by
  have e : -(nI x) = nI 0 - nI x := by
    rw [nI_0]
    grind
  rw [e, pk_sub_toInt (by decide) h]
  omega
/-- keys that stand for their opposites -/
theorem ahd_neg {T : Nat → Nat} {f : Nat → Int32} {p o : Nat} (hp : f p = -(nI (T p))) (ho : f o = -(nI (T o))) (bp : T p < 2 ^ 30) (bo : T o < 2 ^ 30) : ahd f p o = (decide (T p < T o) || (decide (T p = T o) && decide (o < p))) := by
  have h1 : f o < f p ↔ T p < T o := by
    rw [hp, ho, Int32.lt_iff_toInt_lt, neg_toInt bp, neg_toInt bo]
    omega
  have h2 : f o = f p ↔ T p = T o := by
    rw [hp, ho, ← Int32.toInt_inj, neg_toInt bp, neg_toInt bo]
    omega
  unfold ahd
  rw [decide_eq_decide.mpr h1, decide_eq_decide.mpr h2]
theorem w_putKeysO {n : Nat} {σ : Mem} {Q : Mem → Prop} {E : String → Mem → Prop} (h5 : rd σ 0 5 1 = nI n) (h8 : rd σ 0 8 1 = nI n) (hn : n ≤ 8)
    (h : ∀ τ : Mem, (∀ f k s : Nat, ¬ (f ≤ 1 ∧ k = 110) → rd τ f k s = rd σ f k s) → τ.2 = σ.2 → rd τ 0 110 1 = nI n → (∀ q : Nat, q < n → rd τ 1 110 q = -(rd σ 1 8 q)) → Q τ) : wX5_putKeys 0 σ Q E := by
  have key : ∀ (m v : Nat) (σ' : Mem), v + m = n → (∀ f k s : Nat, ¬ (f ≤ 1 ∧ k = 110) → rd σ' f k s = rd σ f k s) → σ'.2 = σ.2 → rd σ' 0 110 1 = nI v → (∀ q : Nat, q < v → rd σ' 1 110 q = -(rd σ 1 8 q)) → wX5_putKeys_6 0 Q E (fun s => Q s) (m + 1) (nI v) σ' := by
    intro m
    induction m with
    | zero =>
      intro v σ' hv p1 p2 p3 p4
      obtain rfl : v = n := by omega
      have e5 : rd σ' 0 5 1 = nI v := (p1 0 5 1 (by omega)).trans h5
      exact ⟨fun _ => h σ' p1 p2 p3 p4, fun r => absurd (show rd σ' 0 5 1 ≤ nI v from e5 ▸ nI_le (Nat.le_refl v) (by omega)) r⟩
    | succ m ih =>
      intro v σ' hv p1 p2 p3 p4
      have e5 : rd σ' 0 5 1 = nI n := (p1 0 5 1 (by omega)).trans h5
      refine ⟨fun r => absurd (show nI n ≤ nI v from e5 ▸ r) (nI_ge (by omega) (by omega)), fun _ => ?_⟩
      refine w_get (k := 8) (n := n) (i := v) ((p1 0 8 1 (by omega)).trans h8) (by omega) hn rfl ?_
      refine w_add (k := 110) (n := v) p3 (show v < 12 by omega) (fun τ t1 t2 t3 t4 x hx => ?_)
      rw [nI_1] at hx
      subst hx
      refine ih (v + 1) τ (by omega) (fun f k s n => (t1 f k s n).trans (p1 f k s n)) (t2.trans p2) t3 (fun q hq => ?_)
      rw [t4]
      by_cases c : q = v
      · subst c
        rw [if_pos rfl, p1 1 8 q (by omega)]
      · rw [if_neg c]
        exact p4 q (by omega)
  intro s1 hs1
  refine ⟨n + 1, key n 0 s1 (by omega) (fun f k s n => by rw [hs1, rd_wr, if_neg (by omega)]) (by rw [hs1]; rfl) (by rw [hs1, rd_wr, if_pos ⟨rfl, rfl, rfl⟩]; rfl) (fun q hq => absurd hq (Nat.not_lt_zero q))⟩
theorem ord_lw {t nB nO nP : Nat} {a : Nat → Int32} (F : Fits t nB nO nP a) : ∃ l w : Nat → Nat, ∀ q : Nat, q < nO → a (55 + 3 * q) = nI (l q) ∧ a (56 + 3 * q) = nI (w q) ∧ 1 ≤ l q ∧ l q ≤ 40 ∧ 1 ≤ w q ∧ w q ≤ 9 := by
  have g := F.2.2.2.2.2.2.1
  refine ⟨fun q => (a (55 + 3 * q)).toNatClampNeg, fun q => (a (56 + 3 * q)).toNatClampNeg, fun q hq => ?_⟩
  obtain ⟨-, ⟨l, l1, l2, l3⟩, w, w1, w2, w3⟩ := g q hq
  show a (55 + 3 * q) = nI (a (55 + 3 * q)).toNatClampNeg ∧ a (56 + 3 * q) = nI (a (56 + 3 * q)).toNatClampNeg ∧ 1 ≤ (a (55 + 3 * q)).toNatClampNeg ∧ (a (55 + 3 * q)).toNatClampNeg ≤ 40 ∧ 1 ≤ (a (56 + 3 * q)).toNatClampNeg ∧ (a (56 + 3 * q)).toNatClampNeg ≤ 9
  rw [l3, w3, nI_clamp (by omega), nI_clamp (by omega)]
  exact ⟨rfl, rfl, l1, l2, w1, w2⟩
theorem mul_le360 {l w : Nat} (h1 : l ≤ 40) (h2 : w ≤ 9) : l * w ≤ 360 := Nat.mul_le_mul h1 h2
