/-! COINS AND IDS OF A ROW -/
def Coin (t : Nat) (v : Int32) : Prop := ∃ c : Nat, c ≤ 1000 + 200 * (t * t) ∧ v = nI c
def Asc (n : Nat) (f : Nat → Int32) (x : Int32) (t : Nat) : Prop := ∃ (d : Nat → Nat) (m : Nat), m ≤ t ∧ x = nI m ∧ (∀ q : Nat, q < n → f q = nI (d q) ∧ d q < m) ∧ ∀ q q' : Nat, q < q' → q' < n → d q < d q'
/-- coins are not below 0, ids ascend and lie below the next one -/
def Srt (t nB nO : Nat) (a : Nat → Int32) : Prop := Coin t (a 0) ∧ Asc nB (fun q => a (14 + 4 * q)) (a 9) t ∧ Asc nO (fun q => a (54 + 3 * q)) (a 10) t
/-- what a change answers -/
def Ans (t : Nat) (v : Int32) : Prop := ∃ w : Nat, w ≤ 1000 + 400 * t ∧ v = nI w
theorem sq1 (t : Nat) : (t + 1) * (t + 1) = t * t + 2 * t + 1 := by
  rw [Nat.add_mul, Nat.mul_add]
  omega
theorem sq512 {t : Nat} (h : t ≤ 512) : t * t ≤ 262144 := Nat.mul_le_mul h h
theorem Coin.up {t : Nat} {v : Int32} (h : Coin t v) : Coin (t + 1) v := by
  obtain ⟨c, h1, h2⟩ := h
  exact ⟨c, by rw [sq1]; omega, h2⟩
theorem Coin.sub {t k : Nat} {v x : Int32} (ht : t ≤ 512) (h : Coin t v) (hx : x = nI k) (hk : k < 2 ^ 31) (hle : x ≤ v) : Coin (t + 1) (v - x) := by
  obtain ⟨c, h1, h2⟩ := h
  have := sq512 ht
  subst hx h2
  have h3 := (nI_leI hk (by omega)).mp hle
  exact ⟨c - k, by rw [sq1]; omega, pk_sub h3⟩
theorem Coin.add {t k : Nat} {v x : Int32} (h : Coin t v) (hx : x = nI k) (hk : k ≤ 400 * t + 200) : Coin (t + 1) (v + x) := by
  obtain ⟨c, h1, h2⟩ := h
  subst hx h2
  exact ⟨c + k, by rw [sq1]; omega, nI_add c k⟩
theorem Asc.cg {n t t' : Nat} {f f' : Nat → Int32} {x x' : Int32} (h : Asc n f x t) (ht : t ≤ t') (hf : ∀ q : Nat, q < n → f' q = f q) (hx : x' = x) : Asc n f' x' t' := by
  obtain ⟨d, m, h1, h2, h3, h4⟩ := h
  exact ⟨d, m, Nat.le_trans h1 ht, hx.trans h2, fun q hq => ⟨(hf q hq).trans (h3 q hq).1, (h3 q hq).2⟩, h4⟩
theorem Asc.app {n t : Nat} {f f' : Nat → Int32} {x x' : Int32} (h : Asc n f x t) (hf : ∀ q : Nat, q < n → f' q = f q) (hn : f' n = x) (hx : x' = x + 1) : Asc (n + 1) f' x' (t + 1) := by
  obtain ⟨d, m, h1, h2, h3, h4⟩ := h
  refine ⟨fun q => if q = n then m else d q, m + 1, by omega, by rw [hx, h2, nI_1], fun q hq => ?_, fun q q' hq hq' => ?_⟩
  · by_cases e : q = n
    · subst e
      show f' q = nI (if q = q then m else d q) ∧ (if q = q then m else d q) < m + 1
      rw [if_pos rfl]
      exact ⟨hn.trans h2, Nat.lt_succ_self m⟩
    · show f' q = nI (if q = n then m else d q) ∧ (if q = n then m else d q) < m + 1
      rw [if_neg e]
      have g := h3 q (by omega)
      exact ⟨(hf q (by omega)).trans g.1, by omega⟩
  · show (if q = n then m else d q) < if q' = n then m else d q'
    rw [if_neg (show ¬ q = n by omega)]
    by_cases e : q' = n
    · rw [if_pos e]
      exact (h3 q (by omega)).2
    · rw [if_neg e]
      exact h4 q q' hq (by omega)
theorem Asc.del {n p t t' : Nat} {f f' : Nat → Int32} {x x' : Int32} (h : Asc (n + 1) f x t) (ht : t ≤ t') (hp : p < n + 1) (hf : ∀ q : Nat, q < n → f' q = f (rm p q)) (hx : x' = x) : Asc n f' x' t' := by
  obtain ⟨d, m, h1, h2, h3, h4⟩ := h
  refine ⟨fun q => d (rm p q), m, Nat.le_trans h1 ht, hx.trans h2, fun q hq => ?_, fun q q' hq hq' => h4 _ _ ?_ (rm_lt hp hq')⟩
  · have g := h3 _ (rm_lt hp hq)
    exact ⟨(hf q hq).trans g.1, g.2⟩
  · unfold rm
    split <;> split <;> omega
theorem Srt.to {t nB nO : Nat} {a a' : Nat → Int32} (G : Srt t nB nO a) (o0 : a' 0 = a 0) (o9 : a' 9 = a 9) (o10 : a' 10 = a 10) (ob : ∀ q : Nat, q < nB → a' (14 + 4 * q) = a (14 + 4 * q)) (oo : ∀ q : Nat, q < nO → a' (54 + 3 * q) = a (54 + 3 * q)) : Srt (t + 1) nB nO a' :=
  ⟨by rw [o0]; exact G.1.up, G.2.1.cg (Nat.le_succ t) ob o9, G.2.2.cg (Nat.le_succ t) oo o10⟩
theorem Srt.mono {t t' nB nO : Nat} {a : Nat → Int32} (ht : t ≤ t') (G : Srt t nB nO a) : Srt t' nB nO a := by
  obtain ⟨⟨c, c1, c2⟩, h2, h3⟩ := G
  refine ⟨⟨c, Nat.le_trans c1 ?_, c2⟩, h2.cg ht (fun _ _ => rfl) rfl, h3.cg ht (fun _ _ => rfl) rfl⟩
  have := Nat.mul_le_mul ht ht
  omega
theorem Srt.cgr {t nB nO : Nat} {a a' : Nat → Int32} (hB : nB ≤ 10) (hO : nO ≤ 8) (e : ∀ i : Nat, i < 90 → a' i = a i) (G : Srt t nB nO a) : Srt t nB nO a' :=
  ⟨by rw [e 0 (by omega)]; exact G.1, G.2.1.cg (Nat.le_refl t) (fun q hq => e _ (by omega)) (e 9 (by omega)), G.2.2.cg (Nat.le_refl t) (fun q hq => e _ (by omega)) (e 10 (by omega))⟩
theorem wth_nI {l : Nat} (h : l < 2 ^ 28) : ∃ w : Nat, w ≤ 5 * l ∧ wth (nI l) = nI w := by
  unfold wth
  split
  · exact ⟨l * 2, by omega, pk_mul l 2⟩
  · exact ⟨l * 5, by omega, pk_mul l 5⟩
/-! A CHANGE: what the class does -/
/-- it is refused with r -/
def ChR (c : Nat) (x1 x2 x3 : Int32) (nB nO nP : Nat) (a : Nat → Int32) (r : Nat) : Prop :=
  ∀ (σ : Mem) (Q : Nat → Mem → Prop) (E : String → Mem → Prop), Same σ 0 nB nO nP a → Zer σ → (∀ τ : Mem, FrS σ τ → Q r τ) → wX12_refusalOf c x1 x2 x3 σ Q E
/-- it is made, and answers v -/
def ChD (c : Nat) (x1 x2 x3 : Int32) (nB nO nP : Nat) (a : Nat → Int32) (nB' nO' nP' : Nat) (a' : Nat → Int32) (v : Int32) : Prop :=
  (∀ (σ : Mem) (Q : Nat → Mem → Prop) (E : String → Mem → Prop), Same σ 0 nB nO nP a → Zer σ → (∀ τ : Mem, FrS σ τ → Q 0 τ) → wX12_refusalOf c x1 x2 x3 σ Q E) ∧
  ∀ (σ : Mem) (Q : Int32 → Mem → Prop) (E : String → Mem → Prop), Same σ 0 nB nO nP a → Zer σ → (∀ τ : Mem, FrC σ τ → Same τ 0 nB' nO' nP' a' → Q v τ) → wX12_carryOut c x1 x2 x3 σ Q E
def Ch (c : Nat) (x1 x2 x3 : Int32) (L : List Nat) (t nB nO nP : Nat) (a : Nat → Int32) : Prop :=
  (∃ r : Nat, r ∈ L ∧ ChR c x1 x2 x3 nB nO nP a r) ∨ ∃ (nB' nO' nP' : Nat) (a' : Nat → Int32) (v : Int32), (Fits (t + 1) nB' nO' nP' a' ∧ Srt (t + 1) nB' nO' a' ∧ Ans t v) ∧ ChD c x1 x2 x3 nB nO nP a nB' nO' nP' a' v
