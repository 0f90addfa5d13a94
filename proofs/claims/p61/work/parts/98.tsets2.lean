/-! THE SHORTEST TIME BY SETS: the class's tables -/
theorem q2_le {k : Nat} (h : k ≤ 8) : 1 ≤ 2 ^ k ∧ 2 ^ k ≤ 256 := ⟨Nat.one_le_two_pow, Nat.pow_le_pow_right (n := 2) (j := 8) (by decide) h⟩
def FT (σ τ : Mem) : Prop := (∀ f k s : Nat, ¬ (f = 10 ∧ (k = 4 ∨ (k = 3 ∧ ¬ s = 0))) → rd τ f k s = rd σ f k s) ∧ τ.2 = σ.2
theorem FT.rf (σ : Mem) : FT σ σ := ⟨fun _ _ _ _ => rfl, rfl⟩
theorem FT.tr {σ τ u : Mem} (h1 : FT σ τ) (h2 : FT τ u) : FT σ u := ⟨fun f k s n => (h2.1 f k s n).trans (h1.1 f k s n), h2.2.trans h1.2⟩
/-- the orders' times, and the empty set's sum -/
def TSx (σ : Mem) (n : Nat) (T : Nat → Nat) : Prop := n ≤ 8 ∧ rd σ 0 5 1 = nI n ∧ rd σ 0 8 1 = nI n ∧ (∀ q : Nat, q < n → rd σ 1 8 q = nI (T q) ∧ T q ≤ 360) ∧ rd σ 10 3 0 = 0
theorem TSx.on {σ τ : Mem} {n : Nat} {T : Nat → Nat} (h : FT σ τ) (B : TSx σ n T) : TSx τ n T := by
  obtain ⟨b1, b2, b3, b4, b5⟩ := B
  exact ⟨b1, (h.1 0 5 1 (by omega)).trans b2, (h.1 0 8 1 (by omega)).trans b3, fun q hq => ⟨(h.1 1 8 q (by omega)).trans (b4 q hq).1, (b4 q hq).2⟩, (h.1 10 3 0 (by omega)).trans b5⟩
def Sm (σ : Mem) (k : Nat) (T : Nat → Nat) : Prop := ∀ x : Nat, x < 2 ^ k → rd σ 10 3 x = nI (sB T x k)
theorem w_tadd {n : Nat} {T : Nat → Nat} {σ : Mem} {Q : Mem → Prop} {E : String → Mem → Prop} (B : TSx σ n T) (h : ∀ τ : Mem, FT σ τ → Sm τ n T → Q τ) : wX11_addUpSets σ Q E := by
  have hn := B.1
  have inner : ∀ (X : Int32 → Mem → Prop) (k b : Nat) (x2 : Int32) (σ1 : Mem), k < 8 → (∀ x : Nat, x < 2 ^ k → rd σ1 10 3 x = nI (sB T x k)) → (∀ τ : Mem, FT σ1 τ → (∀ x : Nat, x < 2 ^ k → rd τ 10 3 x = nI (sB T x k)) → (∀ x : Nat, x < 2 ^ k → rd τ 10 3 (2 ^ k + x) = nI (sB T x k + b)) → X x2 τ) → ∃ m : Nat, wX11_addUpSets_30 Q E X m x2 (nI b) (nI (2 ^ k)) 0 σ1 := by
    intro X k b x2 σ1 hk hT hX
    obtain ⟨hB1, hB2⟩ := q2_le (show k ≤ 7 + 1 by omega)
    have hB3 : 2 ^ k ≤ 128 := Nat.pow_le_pow_right (n := 2) (j := 7) (by decide) (by omega)
    generalize 2 ^ k = G at *
    have key : ∀ (m r : Nat) (σ' : Mem), r + m = G → FT σ1 σ' → (∀ x : Nat, x < G → rd σ' 10 3 x = nI (sB T x k)) → (∀ x : Nat, x < r → rd σ' 10 3 (G + x) = nI (sB T x k + b)) → wX11_addUpSets_30 Q E X (m + 1) x2 (nI b) (nI G) (nI r) σ' := by
      intro m
      induction m with
      | zero =>
        intro r σ' hr p1 p2 p3
        obtain rfl : r = G := by omega
        exact ⟨fun _ => hX σ' p1 p2 p3, fun q => absurd (nI_le (Nat.le_refl _) (by omega)) q⟩
      | succ m ih =>
        intro r σ' hr p1 p2 p3
        refine ⟨fun q => absurd q (nI_ge (by omega) (by omega)), fun _ => ?_⟩
        rw [nI_add, nI_clamp (by omega), nI_clamp (by omega), p2 r (by omega), nI_add, nI_1]
        refine ⟨vp_in_nI (show r < 256 by omega) (by decide), vp_in_nI (show G + r < 256 by omega) (by decide), fun s6 h6 v5 h5 => ?_⟩
        rw [h5]
        have fr : ∀ f k s : Nat, ¬ (f = 10 ∧ k = 3 ∧ s = G + r) → rd s6 f k s = rd σ' f k s := fun f k s n => by rw [h6, rd_wr, if_neg n]
        refine ih (r + 1) s6 (by omega) ⟨fun f k s n => ?_, by rw [h6]; exact p1.2⟩ (fun x hx => (fr 10 3 x (by omega)).trans (p2 x hx)) (fun x hx => ?_)
        · rw [fr f k s (by omega)]
          exact p1.1 f k s n
        · by_cases e : x = r
          · subst e
            rw [h6, rd_wr, if_pos ⟨rfl, rfl, rfl⟩]
          · exact (fr 10 3 _ (by omega)).trans (p3 x (by omega))
    exact ⟨G + 1, key G 0 σ1 (by omega) (FT.rf σ1) hT (fun x hx => absurd hx (Nat.not_lt_zero x))⟩
  have key : ∀ (m k : Nat) (σ' : Mem), k + m = n → FT σ σ' → Sm σ' k T → wX11_addUpSets_2 Q E (fun s => Q s) (m + 1) (nI k) σ' := by
    intro m
    induction m with
    | zero =>
      intro k σ' hk p1 p2
      obtain rfl : k = n := by omega
      have B' := B.on p1
      exact ⟨fun _ => h σ' p1 p2, fun r => absurd (show rd σ' 0 5 1 ≤ nI k from B'.2.1 ▸ nI_le (Nat.le_refl k) (by omega)) r⟩
    | succ m ih =>
      intro k σ' hk p1 p2
      have B' := B.on p1
      refine ⟨fun r => absurd (show nI n ≤ nI k from B'.2.1 ▸ r) (nI_ge (by omega) (by omega)), fun _ => ?_⟩
      refine w_get (k := 8) (n := n) (i := k) B'.2.2.1 (by omega) hn rfl ?_
      rw [(B'.2.2.2.1 k (by omega)).1]
      intro v4 h4
      rw [shl1 k (by omega)] at h4
      subst h4
      refine inner _ k (T k) (nI k) σ' (by omega) p2 (fun τ t1 t2 t3 v2 h2 => ?_)
      rw [nI_1] at h2
      subst h2
      refine ih (k + 1) τ (by omega) (p1.tr t1) (fun x hx => ?_)
      rw [Nat.pow_succ] at hx
      by_cases c : x < 2 ^ k
      · rw [sB_low c]
        exact t2 x c
      · obtain ⟨y, rfl⟩ : ∃ y, x = 2 ^ k + y := ⟨x - 2 ^ k, by omega⟩
        have hy : y < 2 ^ k := by omega
        rw [sB_up hy]
        exact t3 y hy
  refine ⟨n + 1, key n 0 σ (by omega) (FT.rf σ) (fun x hx => ?_)⟩
  obtain rfl : x = 0 := by
    have : x < 1 := hx
    omega
  exact B.2.2.2.2
theorem max_le {a b x : Nat} : (if a < b then b else a) ≤ x ↔ a ≤ x ∧ b ≤ x := by split <;> omega
theorem min_le {a b x : Nat} : (if a < b then a else b) ≤ x ↔ a ≤ x ∨ b ≤ x := by split <;> omega
theorem w_oneMore {n set : Nat} {T v : Nat → Nat} {x1 : Int32} {σ : Mem} {Q : Int32 → Mem → Prop} {E : String → Mem → Prop} (hx1 : x1 = nI set) (hn : n ≤ 8) (hset : set < 2 ^ n) (hS : Sm σ n T) (hT : ∀ q : Nat, q < n → T q ≤ 360) (hv : ∀ x : Nat, x ≤ set → rd σ 10 4 x = nI (v x) ∧ v x ≤ 2880)
    (h : ∀ t : Nat, t ≤ 2880 → (∀ x : Nat, t ≤ x ↔ v set ≤ x ∨ ∃ P : Nat, 1 ≤ P ∧ P ≤ set ∧ P &&& set = P ∧ sB T P n ≤ x ∧ v (set - P) ≤ x) → Q (nI t) σ) : wX11_leastWithOneMore x1 σ Q E := by
  subst hx1
  obtain ⟨q1, q2⟩ := q2_le hn
  have bS : ∀ x : Nat, sB T x n ≤ 2880 := fun x => by
    have := sB_le (T := T) (s := x) (M := 360) hT
    omega
  have key : ∀ (r t : Nat), r ≤ set → t ≤ 2880 → (∀ x : Nat, t ≤ x ↔ v set ≤ x ∨ ∃ P : Nat, r < P ∧ P ≤ set ∧ P &&& set = P ∧ sB T P n ≤ x ∧ v (set - P) ≤ x) → wX11_leastWithOneMore_9 Q E (fun x s => Q x s) (r + 1) (nI set) (nI t) (nI r) σ := by
    intro r
    induction r with
    | zero =>
      intro t hr ht ht2
      refine ⟨fun _ => h t ht (fun x => ht2 x), fun q => absurd (show nI 0 ≤ 0 by decide) q⟩
    | succ r ih =>
      intro t hr ht ht2
      refine ⟨fun q => absurd q (nI_nle (by omega) (by omega)), fun _ => ?_⟩
      rw [pk_andNN (by omega) (by omega), nI_eq (Nat.lt_of_le_of_lt Nat.and_le_left (by omega)) (by omega)]
      refine ⟨fun c v3 h3 => ?_, fun c => ?_⟩
      · rw [pk_m1] at h3
        rw [h3]
        refine ih t (by omega) ht (fun x => ?_)
        rw [ht2 x]
        constructor
        · rintro (q | ⟨P, p1, p2, p3⟩)
          · exact Or.inl q
          · exact Or.inr ⟨P, by omega, p2, p3⟩
        · rintro (q | ⟨P, p1, p2, p3, p4⟩)
          · exact Or.inl q
          · by_cases e : P = r + 1
            · subst e
              exact absurd p3 c
            · exact Or.inr ⟨P, by omega, p2, p3, p4⟩
      · rw [pk_sub hr, nI_clamp (by omega), nI_clamp (by omega), hS (r + 1) (by omega), (hv (set - (r + 1)) (by omega)).1]
        have b1 := bS (r + 1)
        have b2 := (hv (set - (r + 1)) (by omega)).2
        refine ⟨vp_in_nI (show r + 1 < 256 by omega) (by decide), vp_in_nI (show set - (r + 1) < 256 by omega) (by decide), fun v2 h2 v3 h3 => ?_⟩
        rw [max_i (by omega) (by omega)] at h2
        have e2 : v2 = nI (if (if sB T (r + 1) n < v (set - (r + 1)) then v (set - (r + 1)) else sB T (r + 1) n) < t then (if sB T (r + 1) n < v (set - (r + 1)) then v (set - (r + 1)) else sB T (r + 1) n) else t) := by
          rw [h2]
          generalize hM : (if sB T (r + 1) n < v (set - (r + 1)) then v (set - (r + 1)) else sB T (r + 1) n) = M
          have bM : M ≤ 2880 := by
            rw [← hM]
            split <;> omega
          by_cases c3 : M < t
          · rw [if_pos c3, if_pos (nI_lt c3 (by omega))]
          · rw [if_neg c3, if_neg (nI_nlt (by omega) (by omega))]
        rw [pk_m1] at h3
        rw [e2, h3]
        refine ih _ (by omega) (min_le.mpr (Or.inr ht)) (fun x => ?_)
        rw [min_le, max_le, ht2 x]
        constructor
        · rintro (⟨q1, q2⟩ | q | ⟨P, p1, p2, p3⟩)
          · exact Or.inr ⟨r + 1, by omega, hr, c, q1, q2⟩
          · exact Or.inl q
          · exact Or.inr ⟨P, by omega, p2, p3⟩
        · rintro (q | ⟨P, p1, p2, p3, p4, p5⟩)
          · exact Or.inr (Or.inl q)
          · by_cases e : P = r + 1
            · subst e
              exact Or.inl ⟨p4, p5⟩
            · exact Or.inr (Or.inr ⟨P, by omega, p2, p3, p4, p5⟩)
  unfold wX11_leastWithOneMore
  rw [nI_clamp (by omega), (hv set (Nat.le_refl set)).1]
  refine ⟨vp_in_nI (show set < 256 by omega) (by decide), fun v2 h2 => ⟨set + 1, ?_⟩⟩
  rw [h2]
  refine key set (v set) (Nat.le_refl set) (hv set (Nat.le_refl set)).2 (fun x => ⟨fun q => Or.inl q, fun q => ?_⟩)
  rcases q with q | ⟨P, p1, p2, _⟩
  · exact q
  · omega
/-- the least times with j machines more than one -/
def Ls (σ : Mem) (n : Nat) (T : Nat → Nat) (j : Nat) : Prop := ∃ v : Nat → Nat, (∀ s : Nat, s < 2 ^ n → rd σ 10 4 s = nI (v s) ∧ v s ≤ 2880) ∧ ∀ s : Nat, s < 2 ^ n → ∀ x : Nat, v s ≤ x ↔ Aj T n j s x
theorem w_bySets {n m : Nat} {T : Nat → Nat} {x2 : Int32} {σ : Mem} {Q : Int32 → Mem → Prop} {E : String → Mem → Prop} (hx2 : x2 = nI m) (hm : 1 ≤ m ∧ m ≤ 3) (B : TSx σ n T) (h : ∀ (τ : Mem) (c : Nat), FT σ τ → c ≤ 2880 → (∀ x : Nat, c ≤ x ↔ Aj T n (m - 1) (2 ^ n - 1) x) → Q (nI c) τ) : wX11_shortestBySets x2 σ Q E := by
  subst hx2
  have hn := B.1
  obtain ⟨q1, q2⟩ := q2_le hn
  have hT : ∀ q : Nat, q < n → T q ≤ 360 := fun q hq => (B.2.2.2.1 q hq).2
  have bS : ∀ x : Nat, sB T x n ≤ 2880 := fun x => by
    have := sB_le (T := T) (s := x) (M := 360) hT
    omega
  unfold wX11_shortestBySets
  refine w_tadd B (fun τ t1 t2 => ?_)
  show ∀ v3 : Int32, v3 = (1 <<< (rd τ 0 5 1 &&& 31)) - 1 → _
  rw [(B.on t1).2.1, shl1 n (by omega)]
  intro v3 h3
  have e3 : v3 = nI (2 ^ n - 1) := by
    rw [h3, show (1 : Int32) = nI 1 from rfl, pk_sub q1]
  subst e3
  have copy : ∀ (X : Int32 → Int32 → Mem → Prop) (u s : Nat) (σ' : Mem), s + u = 2 ^ n → FT τ σ' → Sm σ' n T → (∀ x : Nat, x < s → rd σ' 10 4 x = nI (sB T x n)) → (∀ y : Mem, FT τ y → Sm y n T → (∀ x : Nat, x < 2 ^ n → rd y 10 4 x = nI (sB T x n)) → X (nI m) (nI (2 ^ n - 1)) y) → wX11_shortestBySets_20 Q E X (u + 1) (nI m) (nI (2 ^ n - 1)) (nI s) σ' := by
    intro X u
    induction u with
    | zero =>
      intro s σ' hs p1 p2 p3 hX
      obtain rfl : s = 2 ^ n := by omega
      exact ⟨fun _ => hX σ' p1 p2 p3, fun r => absurd (nI_lt (by omega) (by omega)) r⟩
    | succ u ih =>
      intro s σ' hs p1 p2 p3 hX
      refine ⟨fun r => absurd r (nI_nlt (by omega) (by omega)), fun _ => ?_⟩
      rw [nI_clamp (by omega), p2 s (by omega), nI_1]
      refine ⟨vp_in_nI (show s < 256 by omega) (by decide), vp_in_nI (show s < 256 by omega) (by decide), fun s6 h6 v4 h4 => ?_⟩
      rw [h4]
      have fr : ∀ f k s' : Nat, ¬ (f = 10 ∧ k = 4 ∧ s' = s) → rd s6 f k s' = rd σ' f k s' := fun f k s' n => by rw [h6, rd_wr, if_neg n]
      refine ih (s + 1) s6 (by omega) ⟨fun f k s' n => ?_, by rw [h6]; exact p1.2⟩ (fun x hx => (fr 10 3 x (by omega)).trans (p2 x hx)) (fun x hx => ?_) hX
      · rw [fr f k s' (by omega)]
        exact p1.1 f k s' n
      · by_cases e : x = s
        · subst e
          rw [h6, rd_wr, if_pos ⟨rfl, rfl, rfl⟩]
        · exact (fr 10 4 x (by omega)).trans (p3 x (by omega))
  have more : ∀ (X : Int32 → Int32 → Int32 → Mem → Prop) (j mm : Nat) (v : Nat → Nat) (r : Nat) (σ' : Mem), r < 2 ^ n → FT τ σ' → Sm σ' n T → (∀ s : Nat, s ≤ r → rd σ' 10 4 s = nI (v s) ∧ v s ≤ 2880) → (∀ s : Nat, s < 2 ^ n → ∀ x : Nat, v s ≤ x ↔ Aj T n j s x) →
      (∃ v' : Nat → Nat, ∀ s : Nat, r < s → s < 2 ^ n → (rd σ' 10 4 s = nI (v' s) ∧ v' s ≤ 2880) ∧ ∀ x : Nat, v' s ≤ x ↔ Aj T n (j + 1) s x) → (∀ y : Mem, FT τ y → Sm y n T → Ls y n T (j + 1) → X (nI m) (nI (2 ^ n - 1)) (nI mm) y) → wX11_shortestBySets_58 Q E X (r + 1) (nI m) (nI (2 ^ n - 1)) (nI mm) (nI r) σ' := by
    intro X j mm v r
    induction r with
    | zero =>
      intro σ' hr p1 p2 p3 p4 p5 hX
      obtain ⟨v', hv'⟩ := p5
      refine ⟨fun _ => hX σ' p1 p2 ⟨fun s => if s = 0 then v 0 else v' s, fun s hs => ?_, fun s hs x => ?_⟩, fun q => absurd (show nI 0 ≤ 0 by decide) q⟩
      · by_cases e : s = 0
        · subst e
          exact p3 0 (Nat.le_refl 0)
        · simp only [if_neg e]
          exact (hv' s (by omega) hs).1
      · by_cases e : s = 0
        · subst e
          simp only [if_true]
          rw [p4 0 hs x]
          constructor
          · intro q
            exact ⟨0, by decide, by rw [sB_0]; exact Nat.zero_le x, q⟩
          · rintro ⟨P, P1, P2, P3⟩
            obtain rfl : P = 0 := by rw [← P1, Nat.and_zero]
            exact P3
        · simp only [if_neg e]
          exact (hv' s (by omega) hs).2 x
    | succ r ih =>
      intro σ' hr p1 p2 p3 p4 p5 hX
      refine ⟨fun q => absurd q (nI_nle (by omega) (by omega)), fun _ => ?_⟩
      refine w_oneMore (n := n) (set := r + 1) (T := T) (v := v) rfl hn hr p2 hT p3 (fun t ht1 ht2 => ?_)
      rw [nI_clamp (by omega)]
      refine ⟨vp_in_nI (show r + 1 < 256 by omega) (by decide), fun s13 h13 v5 h5 => ?_⟩
      rw [pk_m1] at h5
      rw [h5]
      have fr : ∀ f k s' : Nat, ¬ (f = 10 ∧ k = 4 ∧ s' = r + 1) → rd s13 f k s' = rd σ' f k s' := fun f k s' n => by rw [h13, rd_wr, if_neg n]
      refine ih s13 (by omega) ⟨fun f k s' n => ?_, by rw [h13]; exact p1.2⟩ (fun x hx => (fr 10 3 x (by omega)).trans (p2 x hx)) (fun s hs => ?_) p4 ?_ hX
      · rw [fr f k s' (by omega)]
        exact p1.1 f k s' n
      · rw [fr 10 4 s (by omega)]
        exact p3 s (by omega)
      · obtain ⟨v', hv'⟩ := p5
        refine ⟨fun s => if s = r + 1 then t else v' s, fun s hs1 hs2 => ?_⟩
        by_cases e : s = r + 1
        · subst e
          simp only [if_true]
          refine ⟨⟨by rw [h13, rd_wr, if_pos ⟨rfl, rfl, rfl⟩], ht1⟩, fun x => ?_⟩
          rw [ht2 x]
          constructor
          · rintro (q | ⟨P, P1, P2, P3, P4, P5⟩)
            · refine ⟨0, Nat.zero_and _, by rw [sB_0]; exact Nat.zero_le x, ?_⟩
              rw [Nat.xor_zero]
              exact (p4 _ hs2 x).mp q
            · refine ⟨P, P3, P4, ?_⟩
              rw [← sub_xor (r + 1) (by omega) P (by omega) P3]
              exact (p4 _ (by omega) x).mp P5
          · rintro ⟨P, P1, P2, P3⟩
            by_cases e0 : P = 0
            · subst e0
              rw [Nat.xor_zero] at P3
              exact Or.inl ((p4 _ hs2 x).mpr P3)
            · have le : P ≤ r + 1 := by
                rw [← P1]
                exact Nat.and_le_right
              rw [← sub_xor (r + 1) (by omega) P (by omega) P1] at P3
              exact Or.inr ⟨P, by omega, le, P1, P2, (p4 _ (by omega) x).mpr P3⟩
        · simp only [if_neg e]
          rw [fr 10 4 s (by omega)]
          exact hv' s (by omega) hs2
  refine ⟨2 ^ n + 1, copy _ (2 ^ n) 0 τ (by omega) (FT.rf τ) t2 (fun x hx => absurd hx (Nat.not_lt_zero x)) (fun y y1 y2 y3 => ?_)⟩
  have mach : ∀ (u j : Nat) (σ' : Mem), j + 1 + u = m → FT τ σ' → Sm σ' n T → Ls σ' n T j → wX11_shortestBySets_49 Q E (fun (x3_21 : Int32) (s22 : Mem) => vp_in x3_21 (iaLen 4) ∧ Q (rd s22 10 4 x3_21.toNatClampNeg) s22) (u + 1) (nI m) (nI (2 ^ n - 1)) (nI (j + 2)) σ' := by
    intro u
    induction u with
    | zero =>
      intro j σ' hj p1 p2 p3
      obtain ⟨v, v1, v2⟩ := p3
      refine ⟨fun _ => ?_, fun q => absurd (nI_lt (by omega) (by omega)) q⟩
      show vp_in (nI (2 ^ n - 1)) (iaLen 4) ∧ Q (rd σ' 10 4 (nI (2 ^ n - 1)).toNatClampNeg) σ'
      rw [nI_clamp (by omega), (v1 (2 ^ n - 1) (by omega)).1]
      refine ⟨vp_in_nI (show 2 ^ n - 1 < 256 by omega) (by decide), h σ' _ (t1.tr p1) (v1 (2 ^ n - 1) (by omega)).2 (fun x => ?_)⟩
      rw [show m - 1 = j by omega]
      exact v2 _ (by omega) x
    | succ u ih =>
      intro j σ' hj p1 p2 p3
      obtain ⟨v, v1, v2⟩ := p3
      refine ⟨fun q => absurd q (nI_nlt (by omega) (by omega)), fun _ => ⟨2 ^ n - 1 + 1, more _ j (j + 2) v (2 ^ n - 1) σ' (by omega) p1 p2 (fun s hs => v1 s (by omega)) v2 ⟨v, fun s hs1 hs2 => absurd hs1 (by omega)⟩ (fun y y1 y2 y3 v4 h4 => ?_)⟩⟩
      rw [nI_1] at h4
      rw [h4]
      exact ih (j + 1) y (by omega) y1 y2 y3
  refine ⟨m - 1 + 1, mach (m - 1) 0 y (by omega) y1 y2 ⟨fun s => sB T s n, fun s hs => ⟨y3 s hs, bS s⟩, fun s hs x => Iff.rfl⟩⟩
