/-! THE SHORTEST TIME BY SEARCH: class and reference -/
def uF (ld : Nat → Nat) (j v : Nat) : Nat → Nat := fun i => if i = j then v else ld i
/-- the k orders from p on can be given to the m machines so that no load that grows passes x -/
def Ach (T : Nat → Nat) (m : Nat) : Nat → Nat → (Nat → Nat) → Nat → Prop
  | 0, _, _, _ => True
  | k + 1, p, ld, x => ∃ j : Nat, j < m ∧ ld j + T p ≤ x ∧ Ach T m k (p + 1) (uF ld j (ld j + T p)) x
/-- the times in class and reference -/
def TCx (σ : Mem) (n m : Nat) (T : Nat → Nat) : Prop := n ≤ 8 ∧ m ≤ 3 ∧ rd σ 0 5 1 = nI n ∧ rd σ 0 8 1 = nI n ∧ rd σ 0 111 1 = nI m ∧ ∀ q : Nat, q < n → rd σ 1 8 q = nI (T q) ∧ T q ≤ 360
theorem w_put {k n i : Nat} {x v : Int32} {σ : Mem} {Q : Mem → Prop} {E : String → Mem → Prop} (hk : rd σ 0 k 1 = nI n) (hi : i < n) (hn : n ≤ rowCap k) (hx : x = nI i) (h : Q (wr σ 1 k i v)) : wX7_put k x v σ Q E := by
  have hc := rowCap_le k
  subst hx
  unfold wX7_put
  rw [hk, nI_clamp (by omega)]
  exact ⟨fun q => absurd q (nI_pos (by omega)), fun _ => ⟨fun q => absurd q (nI_ge hi (by omega)), fun _ => ⟨vp_in_nI (by omega) (by omega), fun s1 h1 => by rw [h1]; exact h⟩⟩⟩
theorem max_i {a b : Nat} (ha : a < 2 ^ 31) (hb : b < 2 ^ 31) : (if nI a < nI b then nI b else nI a) = nI (if a < b then b else a) := by
  by_cases c : a < b
  · rw [if_pos c, if_pos (nI_lt c hb)]
  · rw [if_neg c, if_neg (nI_nlt (by omega) ha)]
theorem w_tsearch {n m : Nat} {T : Nat → Nat} {E : String → Mem → Prop} : ∀ (d p time c : Nat) (ld : Nat → Nat) (σ : Mem) (Q : Mem → Prop), n - p < d → p ≤ n → time ≤ 360 * p → (∀ j : Nat, j < m → ld j ≤ 360 * p) → c ≤ 2147483647 → TCx σ n m T → (∀ j : Nat, j < m → rd σ 1 111 j = nI (ld j)) → rd σ 8 0 3 = nI c →
    (∀ (τ : Mem) (c' : Nat), (∀ f k s : Nat, ¬ (f = 8 ∧ k = 0 ∧ s = 3) → rd τ f k s = rd σ f k s) → τ.2 = σ.2 → rd τ 8 0 3 = nI c' → c' ≤ c → (∀ x : Nat, c' ≤ x ↔ c ≤ x ∨ (time ≤ x ∧ Ach T m (n - p) p ld x)) → Q τ) → wX11_search d (nI p) (nI time) σ Q E := by
  intro d
  induction d with
  | zero => intro p time c ld σ Q hd; exact absurd hd (Nat.not_lt_zero _)
  | succ d ih =>
    intro p time c ld σ Q hd hp ht hl hc B hld h3 h
    obtain ⟨hn, hm, b5, b8, b111, bT⟩ := B
    unfold wX11_search
    rw [h3, nI_ltI (by omega) (by omega)]
    refine ⟨fun cT => ?_, fun cT => ?_⟩
    rotate_left
    · refine h σ c (fun _ _ _ _ => rfl) rfl h3 (Nat.le_refl c) (fun x => ⟨fun q => Or.inl q, fun q => ?_⟩)
      rcases q with q | q <;> omega
    show (nI p < rd σ 0 5 1 → _) ∧ (¬ nI p < rd σ 0 5 1 → ∀ s18 : Mem, s18 = wr σ 8 0 3 (nI time) → Q s18)
    rw [b5, nI_ltI (by omega) (by omega)]
    refine ⟨fun cp => ?_, fun cp s18 h18 => ?_⟩
    rotate_left
    · refine h s18 time (fun f k s q => by rw [h18, rd_wr, if_neg q]) (by rw [h18]; rfl) (by rw [h18, rd_wr, if_pos ⟨rfl, rfl, rfl⟩]) (by omega) (fun x => ⟨fun q => Or.inr ⟨q, ?_⟩, fun q => ?_⟩)
      · rw [show n - p = 0 by omega]
        trivial
      · rcases q with q | q <;> omega
    obtain ⟨k1, k2⟩ := bT p cp
    refine w_get (k := 8) (n := n) (i := p) b8 cp hn rfl ?_
    rw [k1]
    have key : ∀ (u i ci : Nat) (σ' : Mem), i + u = m → ci ≤ c → (∀ f k s : Nat, ¬ (f = 8 ∧ k = 0 ∧ s = 3) → rd σ' f k s = rd σ f k s) → σ'.2 = σ.2 → rd σ' 8 0 3 = nI ci → (∀ x : Nat, ci ≤ x ↔ c ≤ x ∨ (time ≤ x ∧ ∃ j : Nat, j < i ∧ ld j + T p ≤ x ∧ Ach T m (n - (p + 1)) (p + 1) (uF ld j (ld j + T p)) x)) →
        wX11_search_39 Q E (fun a3_ a4_ τ Q2 => wX11_search d a3_ a4_ τ Q2 E) (fun s16 => Q s16) (u + 1) (nI p) (nI time) (nI (T p)) (nI i) σ' := by
      intro u
      induction u with
      | zero =>
        intro i ci σ' hi hci p1 p2 p3 p4
        obtain rfl : i = m := by omega
        have e111 : rd σ' 0 111 1 = nI i := (p1 0 111 1 (by omega)).trans b111
        refine ⟨fun _ => h σ' ci p1 p2 p3 hci (fun x => ?_), fun r => absurd (show rd σ' 0 111 1 ≤ nI i from e111 ▸ nI_le (Nat.le_refl i) (by omega)) r⟩
        rw [p4 x, show n - p = n - (p + 1) + 1 by omega]
        rfl
      | succ u ihu =>
        intro i ci σ' hi hci p1 p2 p3 p4
        have e111 : rd σ' 0 111 1 = nI m := (p1 0 111 1 (by omega)).trans b111
        have hli := hl i (by omega)
        refine ⟨fun r => absurd (show nI m ≤ nI i from e111 ▸ r) (nI_ge (by omega) (by omega)), fun _ => ?_⟩
        refine w_get (k := 111) (n := m) (i := i) e111 (by omega) hm rfl ?_
        rw [p1 1 111 i (by omega), hld i (by omega), nI_add, nI_1]
        refine w_put (k := 111) (n := m) (i := i) e111 (by omega) hm rfl ?_
        rw [max_i (by omega) (by omega)]
        have fr : ∀ f k s : Nat, ¬ (f = 1 ∧ k = 111 ∧ s = i) → rd (wr σ' 1 111 i (nI (ld i + T p))) f k s = rd σ' f k s := fun f k s q => by rw [rd_wr, if_neg q]
        refine ih (p + 1) (if time < ld i + T p then ld i + T p else time) ci (uF ld i (ld i + T p)) _ _ (by omega) (by omega) (by split <;> omega) (fun j hj => ?_) (by omega) ⟨hn, hm, ?_, ?_, ?_, fun q hq => ?_⟩ (fun j hj => ?_) ?_ (fun y c' y1 y2 y3 y4 y5 => ?_)
        · unfold uF
          have := hl j hj
          split <;> omega
        · rw [fr 0 5 1 (by omega), p1 0 5 1 (by omega)]; exact b5
        · rw [fr 0 8 1 (by omega), p1 0 8 1 (by omega)]; exact b8
        · rw [fr 0 111 1 (by omega)]; exact e111
        · rw [fr 1 8 q (by omega), p1 1 8 q (by omega)]; exact bT q hq
        · unfold uF
          by_cases e : j = i
          · subst e
            rw [if_pos rfl, rd_wr, if_pos ⟨rfl, rfl, rfl⟩]
          · rw [if_neg e, fr 1 111 j (by omega), p1 1 111 j (by omega)]
            exact hld j hj
        · rw [fr 8 0 3 (by omega)]; exact p3
        · refine w_put (k := 111) (n := m) (i := i) ((y1 0 111 1 (by omega)).trans ((fr 0 111 1 (by omega)).trans e111)) (by omega) hm rfl ?_
          intro v5 h5
          rw [nI_1] at h5
          rw [h5]
          refine ihu (i + 1) c' _ (by omega) (by omega) (fun f k s q => ?_) (by show y.2 = _; rw [y2]; exact p2) (by rw [rd_wr, if_neg (by omega)]; exact y3) (fun x => ?_)
          · rw [rd_wr]
            by_cases e : f = 1 ∧ k = 111 ∧ s = i
            · rw [if_pos e, e.1, e.2.1, e.2.2]
              exact (hld i (by omega)).symm
            · rw [if_neg e, y1 f k s q, fr f k s e, p1 f k s q]
          · rw [y5 x, p4 x]
            constructor
            · rintro ((q | ⟨q1, j, j1, j2, j3⟩) | ⟨q1, q2⟩)
              · exact Or.inl q
              · exact Or.inr ⟨q1, j, by omega, j2, j3⟩
              · refine Or.inr ⟨?_, i, by omega, ?_, q2⟩
                · split at q1 <;> omega
                · split at q1 <;> omega
            · rintro (q | ⟨q1, j, j1, j2, j3⟩)
              · exact Or.inl (Or.inl q)
              · by_cases e : j = i
                · subst e
                  exact Or.inr ⟨by split <;> omega, j3⟩
                · exact Or.inl (Or.inr ⟨q1, j, by omega, j2, j3⟩)
    refine ⟨m + 1, key m 0 c σ (by omega) (Nat.le_refl c) (fun _ _ _ _ => rfl) rfl h3 (fun x => ⟨fun q => Or.inl q, fun q => ?_⟩)⟩
    rcases q with q | ⟨_, j, j1, _⟩
    · exact q
    · exact absurd j1 (Nat.not_lt_zero j)
