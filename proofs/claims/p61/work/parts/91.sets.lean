/-! ALL SETS OF BALES: THE CLASS'S TABLES -/
theorem p2_le {k : Nat} (h : k < 10) : 1 ≤ 2 ^ k ∧ 2 ^ k ≤ 512 := ⟨Nat.one_le_two_pow, Nat.pow_le_pow_right (n := 2) (j := 9) (by decide) (by omega)⟩
theorem p2_le' {k : Nat} (h : k ≤ 10) : 1 ≤ 2 ^ k ∧ 2 ^ k ≤ 1024 := ⟨Nat.one_le_two_pow, Nat.pow_le_pow_right (n := 2) (j := 10) (by decide) h⟩
/-- only the tables of sums changed, and not at the empty set -/
def FB (σ τ : Mem) : Prop := (∀ f k s : Nat, ¬ (f = 10 ∧ k < 3 ∧ ¬ s = 0) → rd τ f k s = rd σ f k s) ∧ τ.2 = σ.2
theorem FB.rf (σ : Mem) : FB σ σ := ⟨fun _ _ _ _ => rfl, rfl⟩
theorem FB.s {σ τ : Mem} (h : FB σ τ) : FrS σ τ := ⟨fun f k s n => h.1 f k s (fun q => n (by unfold scc; omega)), h.2⟩
/-- what the rows of bales hold, as numbers -/
def BCx (σ : Mem) (n : Nat) (w s z : Nat → Nat) : Prop := n ≤ 10 ∧ (rd σ 0 0 1 = nI n ∧ rd σ 0 1 1 = nI n ∧ rd σ 0 2 1 = nI n ∧ rd σ 0 4 1 = nI n) ∧
  (∀ q : Nat, q < n → rd σ 1 1 q = nI (w q) ∧ rd σ 1 2 q = nI (s q) ∧ rd σ 1 4 q = nI (w q * z q)) ∧ (∀ q : Nat, q < n → (1 ≤ w q ∧ w q ≤ 50) ∧ (10 ≤ s q ∧ s q ≤ 60) ∧ 1 ≤ z q ∧ z q ≤ 20) ∧ (rd σ 10 0 0 = 0 ∧ rd σ 10 1 0 = 0 ∧ rd σ 10 2 0 = 0)
theorem BCx.on {σ τ : Mem} {n : Nat} {w s z : Nat → Nat} (h : FB σ τ) (B : BCx σ n w s z) : BCx τ n w s z := by
  obtain ⟨b1, ⟨b2, b3, b4, b5⟩, b6, b7, b8, b9, b10⟩ := B
  refine ⟨b1, ⟨(h.1 0 0 1 (by omega)).trans b2, (h.1 0 1 1 (by omega)).trans b3, (h.1 0 2 1 (by omega)).trans b4, (h.1 0 4 1 (by omega)).trans b5⟩, fun q hq => ?_, b7, (h.1 10 0 0 (by omega)).trans b8, (h.1 10 1 0 (by omega)).trans b9, (h.1 10 2 0 (by omega)).trans b10⟩
  obtain ⟨c1, c2, c3⟩ := b6 q hq
  exact ⟨(h.1 1 1 q (by omega)).trans c1, (h.1 1 2 q (by omega)).trans c2, (h.1 1 4 q (by omega)).trans c3⟩
def pP (w s : Nat → Nat) (q : Nat) : Nat := w q * s q
/-- the tables' cells for set x, and what they hold -/
def Cl (σ : Mem) (x a b c : Nat) : Prop := rd σ 10 0 x = nI a ∧ rd σ 10 1 x = nI b ∧ rd σ 10 2 x = nI c
theorem sB_b {w : Nat → Nat} {x n k M : Nat} (hk : k ≤ n) (hn : n ≤ 10) (h : ∀ q : Nat, q < n → w q ≤ M) : sB w x k ≤ 10 * M := Nat.le_trans (sB_le (M := M) fun q hq => h q (by omega)) (Nat.mul_le_mul_right M (by omega))
theorem w_inner {k : Nat} {a b c : Nat} {fa fb fc : Nat → Nat} {x2 : Int32} {σ : Mem} {Q : Mem → Prop} {E : String → Mem → Prop} {X : Int32 → Mem → Prop} (hk : k < 10) (hT : ∀ x : Nat, x < 2 ^ k → Cl σ x (fa x) (fb x) (fc x))
    (h : ∀ τ : Mem, FB σ τ → (∀ x : Nat, x < 2 ^ k → Cl τ x (fa x) (fb x) (fc x)) → (∀ x : Nat, x < 2 ^ k → Cl τ (2 ^ k + x) (fa x + a) (fb x + b) (fc x + c)) → X x2 τ) : ∃ m : Nat, wX2_addUpSets_52 Q E X m x2 (nI a) (nI b) (nI c) (nI (2 ^ k)) 0 σ := by
  obtain ⟨hB1, hB2⟩ := p2_le hk
  generalize 2 ^ k = B at *
  have key : ∀ (m r : Nat) (σ' : Mem), r + m = B → FB σ σ' → (∀ x : Nat, x < B → Cl σ' x (fa x) (fb x) (fc x)) → (∀ x : Nat, x < r → Cl σ' (B + x) (fa x + a) (fb x + b) (fc x + c)) → wX2_addUpSets_52 Q E X (m + 1) x2 (nI a) (nI b) (nI c) (nI B) (nI r) σ' := by
    intro m
    induction m with
    | zero =>
      intro r σ' hr p1 p2 p3
      obtain rfl : r = B := by omega
      exact ⟨fun _ => h σ' p1 p2 p3, fun q => absurd (nI_le (Nat.le_refl _) (by omega)) q⟩
    | succ m ih =>
      intro r σ' hr p1 p2 p3
      obtain ⟨c1, c2, c3⟩ := p2 r (by omega)
      refine ⟨fun q => absurd q (nI_ge (by omega) (by omega)), fun _ => ?_⟩
      rw [nI_add, nI_clamp (by omega), nI_clamp (by omega), c1, nI_add, nI_1]
      have v0 : vp_in (nI r) (iaLen 0) := vp_in_nI (show r < 1024 by omega) (by decide)
      have v1 : vp_in (nI (B + r)) (iaLen 0) := vp_in_nI (show B + r < 1024 by omega) (by decide)
      refine ⟨v0, v1, fun s11 h11 => ⟨v0, v1, fun s12 h12 => ⟨v0, v1, fun s13 h13 v7 h7 => ?_⟩⟩⟩
      rw [h11, rd_wr, if_neg (by omega), c2, nI_add] at h12
      rw [h12, rd_wr, if_neg (by omega), rd_wr, if_neg (by omega), c3, nI_add] at h13
      subst h7
      have fr : ∀ f k s : Nat, ¬ (f = 10 ∧ k < 3 ∧ s = B + r) → rd s13 f k s = rd σ' f k s := fun f k s n => by rw [h13, rd_wr, if_neg (by omega), rd_wr, if_neg (by omega), rd_wr, if_neg (by omega)]
      refine ih (r + 1) s13 (by omega) ⟨fun f k s n => ?_, by rw [h13]; exact p1.2⟩ (fun x hx => ?_) (fun x hx => ?_)
      · rw [fr f k s (by omega)]
        exact p1.1 f k s n
      · obtain ⟨d1, d2, d3⟩ := p2 x hx
        exact ⟨(fr 10 0 x (by omega)).trans d1, (fr 10 1 x (by omega)).trans d2, (fr 10 2 x (by omega)).trans d3⟩
      · by_cases e : x = r
        · subst e
          exact ⟨by rw [h13, rd_wr, if_neg (by omega), rd_wr, if_neg (by omega), rd_wr, if_pos ⟨rfl, rfl, rfl⟩], by rw [h13, rd_wr, if_neg (by omega), rd_wr, if_pos ⟨rfl, rfl, rfl⟩], by rw [h13, rd_wr, if_pos ⟨rfl, rfl, rfl⟩]⟩
        · obtain ⟨d1, d2, d3⟩ := p3 x (by omega)
          exact ⟨(fr 10 0 _ (by omega)).trans d1, (fr 10 1 _ (by omega)).trans d2, (fr 10 2 _ (by omega)).trans d3⟩
  exact ⟨B + 1, key B 0 σ (by omega) (FB.rf σ) hT (fun x hx => absurd hx (Nat.not_lt_zero x))⟩
def Tab (σ : Mem) (n k : Nat) (w s z : Nat → Nat) : Prop := ∀ x : Nat, x < 2 ^ k → Cl σ x (sB w x k) (sB (pP w s) x k) (sB (pP w z) x k)
theorem w_addSets {n : Nat} {w s z : Nat → Nat} {σ : Mem} {Q : Mem → Prop} {E : String → Mem → Prop} (B : BCx σ n w s z) (h : ∀ τ : Mem, FB σ τ → Tab τ n n w s z → Q τ) : wX2_addUpSets σ Q E := by
  have hn := B.1
  have key : ∀ (m k : Nat) (σ' : Mem), k + m = n → FB σ σ' → Tab σ' n k w s z → wX2_addUpSets_2 Q E (fun s => Q s) (m + 1) (nI k) σ' := by
    intro m
    induction m with
    | zero =>
      intro k σ' hk p1 p2
      obtain rfl : k = n := by omega
      have B' := B.on p1
      exact ⟨fun _ => h σ' p1 p2, fun r => absurd (show rd σ' 0 0 1 ≤ nI k from B'.2.1.1 ▸ nI_le (Nat.le_refl k) (by omega)) r⟩
    | succ m ih =>
      intro k σ' hk p1 p2
      have B' := B.on p1
      obtain ⟨c1, c2, c3⟩ := B'.2.2.1 k (by omega)
      refine ⟨fun r => absurd (show nI n ≤ nI k from B'.2.1.1 ▸ r) (nI_ge (by omega) (by omega)), fun _ => ?_⟩
      refine w_get (k := 1) (n := n) (i := k) B'.2.1.2.1 (by omega) hn rfl (w_get (k := 2) (n := n) (i := k) B'.2.1.2.2.1 (by omega) hn rfl ?_)
      rw [c1, c2, pk_mul]
      intro v4 h4
      subst h4
      refine w_get (k := 4) (n := n) (i := k) B'.2.1.2.2.2 (by omega) hn rfl ?_
      rw [c3]
      intro v6 h6
      rw [shl1 k (by omega)] at h6
      subst h6
      refine w_inner (k := k) (by omega) p2 (fun τ t1 t2 t3 v2 h2 => ?_)
      rw [nI_1] at h2
      subst h2
      refine ih (k + 1) τ (by omega) ⟨fun f k s n => (t1.1 f k s n).trans (p1.1 f k s n), t1.2.trans p1.2⟩ (fun x hx => ?_)
      rw [Nat.pow_succ] at hx
      by_cases c : x < 2 ^ k
      · rw [sB_low c, sB_low c, sB_low c]
        exact t2 x c
      · obtain ⟨y, rfl⟩ : ∃ y, x = 2 ^ k + y := ⟨x - 2 ^ k, by omega⟩
        have hy : y < 2 ^ k := by omega
        rw [sB_up hy, sB_up hy, sB_up hy]
        exact t3 y hy
  refine ⟨n + 1, key n 0 σ (by omega) (FB.rf σ) (fun x hx => ?_)⟩
  obtain rfl : x = 0 := by
    have : x < 1 := hx
    omega
  exact ⟨B.2.2.2.2.1, B.2.2.2.2.2.1, B.2.2.2.2.2.2⟩
