/-! ROWS CHANGED: taking out and adding, in several rows at once; the reference's closing -/
/-- of the rows b .. b + i - 1, each has n numbers, as g tells; all else is as in σ -/
def PM (σ : Mem) (b i n : Nat) (g : Nat → Nat → Int32) (σ' : Mem) : Prop :=
  (∀ f k' s : Nat, ¬ (f ≤ 1 ∧ b ≤ k' ∧ k' < b + i) → rd σ' f k' s = rd σ f k' s) ∧ (∀ i' : Nat, i' < i → rd σ' 0 (b + i') 1 = nI n ∧ ∀ q : Nat, q < n → rd σ' 1 (b + i') q = g i' q) ∧ σ'.2 = σ.2
theorem PM.rf (σ : Mem) (b n : Nat) (g : Nat → Nat → Int32) : PM σ b 0 n g σ := ⟨fun _ _ _ _ => rfl, fun i' hi' => absurd hi' (Nat.not_lt_zero i'), rfl⟩
/-- one row more, if only its cells changed -/
theorem PM.next {σ σ' τ : Mem} {b i n : Nat} {g : Nat → Nat → Int32} (P : PM σ b i n g σ') (h1 : ∀ f k' s : Nat, ¬ (f ≤ 1 ∧ k' = b + i) → rd τ f k' s = rd σ' f k' s) (h2 : τ.2 = σ'.2) (h3 : rd τ 0 (b + i) 1 = nI n) (h4 : ∀ q : Nat, q < n → rd τ 1 (b + i) q = g i q) : PM σ b (i + 1) n g τ := by
  refine ⟨fun f k' s hn => ?_, fun i' hi' => ?_, h2.trans P.2.2⟩
  · rw [h1 f k' s (by omega)]
    exact P.1 f k' s (by omega)
  · by_cases e : i' = i
    · subst e
      exact ⟨h3, h4⟩
    · rw [h1 0 _ 1 (by omega)]
      exact ⟨(P.2.1 i' (by omega)).1, fun q hq => (h1 1 _ q (by omega)).trans ((P.2.1 i' (by omega)).2 q hq)⟩
theorem w_removeAt {k n p : Nat} {σ : Mem} {Q : Mem → Prop} {E : String → Mem → Prop} (hk : rd σ 0 k 1 = nI (n + 1)) (hn : n + 1 ≤ rowCap k) (hp : p < n + 1)
    (h : ∀ τ : Mem, (∀ f k' s : Nat, ¬ (f ≤ 1 ∧ k' = k) → rd τ f k' s = rd σ f k' s) → τ.2 = σ.2 → rd τ 0 k 1 = nI n → (∀ q : Nat, q < n → rd τ 1 k q = rd σ 1 k (if q < p then q else q + 1)) → Q τ) : wX7_removeAt k (nI p) σ Q E := by
  have hc := rowCap_le k
  have key : ∀ (X : Mem → Prop) (m u : Nat) (σ' : Mem), u + m = n + 1 → p + 1 ≤ u → (∀ f k' s : Nat, ¬ (f = 1 ∧ k' = k) → rd σ' f k' s = rd σ f k' s) → σ'.2 = σ.2 → (∀ q : Nat, rd σ' 1 k q = rd σ 1 k (if q < p then q else if q + 1 < u then q + 1 else q)) →
      (∀ τ : Mem, (∀ f k' s : Nat, ¬ (f = 1 ∧ k' = k) → rd τ f k' s = rd σ f k' s) → τ.2 = σ.2 → (∀ q : Nat, q < n → rd τ 1 k q = rd σ 1 k (if q < p then q else q + 1)) → X τ) → wX7_removeAt_17 k Q E X (m + 1) (nI u) σ' := by
    intro X m
    induction m with
    | zero =>
      intro u σ' hu h1 p1 p2 p3 hX
      obtain rfl : u = n + 1 := by omega
      refine ⟨fun _ => hX σ' p1 p2 (fun q hq => ?_), fun r => ?_⟩
      · rw [p3]
        congr 1
        split
        · rfl
        · rw [if_pos (by omega)]
      · rw [p1 0 k 1 (by omega), hk] at r
        exact absurd (nI_le (Nat.le_refl _) (by omega)) r
    | succ m ih =>
      intro u σ' hu h1 p1 p2 p3 hX
      obtain ⟨u', rfl⟩ : ∃ u', u = u' + 1 := ⟨u - 1, by omega⟩
      refine ⟨fun r => ?_, fun _ => ?_⟩
      · rw [p1 0 k 1 (by omega), hk] at r
        exact absurd r (nI_ge (by omega) (by omega))
      · rw [nI_pred, nI_clamp (by omega), nI_clamp (by omega)]
        refine ⟨vp_in_nI (by omega) (by omega), vp_in_nI (by omega) (by omega), fun s4 hs4 v hv => ?_⟩
        rw [nI_1] at hv
        subst hv
        refine ih (u' + 1 + 1) s4 (by omega) (by omega) (fun f k' s hn' => ?_) (by rw [hs4]; exact p2) (fun q => ?_) hX
        · rw [hs4, rd_wr, if_neg (by omega)]
          exact p1 f k' s hn'
        · rw [hs4, rd_wr]
          by_cases e : q = u'
          · subst e
            rw [if_pos ⟨rfl, rfl, rfl⟩, p3, if_neg (by omega), if_neg (by omega), if_neg (by omega), if_pos (by omega)]
          · rw [if_neg (by omega), p3]
            congr 1
            split
            · rfl
            · by_cases e2 : q + 1 < u' + 1
              · rw [if_pos e2, if_pos (by omega)]
              · rw [if_neg e2, if_neg (by omega)]
  unfold wX7_removeAt
  rw [hk]
  refine ⟨fun r => absurd r (nI_pos (by omega)), fun _ => ⟨fun _ v hv => ?_, fun r => absurd (nI_lt hp (by omega)) r⟩⟩
  rw [nI_1] at hv
  subst hv
  refine ⟨n - p + 1, key _ (n - p) (p + 1) σ (by omega) (Nat.le_refl _) (fun _ _ _ _ => rfl) rfl (fun q => ?_) (fun τ t1 t2 t3 s7 hs7 => ?_)⟩
  · congr 1
    split
    · rfl
    · rw [if_neg (by omega)]
  · refine h s7 (fun f k' s hn' => ?_) (by rw [hs7]; exact t2) ?_ (fun q hq => ?_)
    · rw [hs7, rd_wr, if_neg (by omega)]
      exact t1 f k' s (by omega)
    · rw [hs7, rd_wr, if_pos ⟨rfl, rfl, rfl⟩, t1 0 k 1 (by omega), hk, nI_pred]
    · rw [hs7, rd_wr, if_neg (by omega)]
      exact t3 q hq
theorem w_add {k n : Nat} {v : Int32} {σ : Mem} {Q : Mem → Prop} {E : String → Mem → Prop} (hk : rd σ 0 k 1 = nI n) (hn : n < rowCap k)
    (h : ∀ τ : Mem, (∀ f k' s : Nat, ¬ (f ≤ 1 ∧ k' = k) → rd τ f k' s = rd σ f k' s) → τ.2 = σ.2 → rd τ 0 k 1 = nI (n + 1) → (∀ q : Nat, rd τ 1 k q = if q = n then v else rd σ 1 k q) → Q τ) : wX7_add k v σ Q E := by
  have hc := rowCap_le k
  unfold wX7_add
  rw [hk, nI_clamp (by omega)]
  refine ⟨fun r => absurd r (nI_ge hn (by omega)), fun _ => ⟨vp_in_nI hn (by omega), fun s1 hs1 s2 hs2 => ?_⟩⟩
  have e : rd s1 0 k 1 = nI n := by rw [hs1, rd_wr, if_neg (by omega), hk]
  rw [e, nI_1] at hs2
  refine h s2 (fun f k' s hn' => ?_) (by rw [hs2, hs1]; rfl) ?_ (fun q => ?_)
  · rw [hs2, rd_wr, if_neg (by omega), hs1, rd_wr, if_neg (by omega)]
  · rw [hs2, rd_wr, if_pos ⟨rfl, rfl, rfl⟩]
  · rw [hs2, rd_wr, if_neg (by omega), hs1, rd_wr]
    by_cases e : q = n
    · rw [if_pos ⟨rfl, rfl, e⟩, if_pos e]
    · rw [if_neg (by omega), if_neg e]
theorem PM.rem {σ σ' : Mem} {b i n p : Nat} {g : Nat → Nat → Int32} {Q : Mem → Prop} {E : String → Mem → Prop} (hn : n + 1 ≤ rowCap (b + i)) (hp : p < n + 1) (hk : rd σ 0 (b + i) 1 = nI (n + 1)) (hg : ∀ q : Nat, q < n → g i q = rd σ 1 (b + i) (if q < p then q else q + 1)) (P : PM σ b i n g σ') (h : ∀ τ : Mem, PM σ b (i + 1) n g τ → Q τ) : wX7_removeAt (b + i) (nI p) σ' Q E := by
  refine w_removeAt (n := n) ((P.1 0 _ 1 (by omega)).trans hk) hn hp (fun τ t1 t2 t3 t4 => h τ (P.next t1 t2 t3 (fun q hq => ?_)))
  rw [t4 q hq, hg q hq]
  exact P.1 1 _ _ (by omega)
theorem PM.add {σ σ' : Mem} {b i n : Nat} {g : Nat → Nat → Int32} {v : Int32} {Q : Mem → Prop} {E : String → Mem → Prop} (hn : n < rowCap (b + i)) (hk : rd σ 0 (b + i) 1 = nI n) (hg : ∀ q : Nat, q < n → g i q = rd σ 1 (b + i) q) (hv : g i n = v) (P : PM σ b i (n + 1) g σ') (h : ∀ τ : Mem, PM σ b (i + 1) (n + 1) g τ → Q τ) : wX7_add (b + i) v σ' Q E := by
  refine w_add (n := n) ((P.1 0 _ 1 (by omega)).trans hk) hn (fun τ t1 t2 t3 t4 => h τ (P.next t1 t2 t3 (fun q hq => ?_)))
  rw [t4 q]
  by_cases e : q = n
  · rw [if_pos e, e, hv]
  · rw [if_neg e, hg q (by omega)]
    exact P.1 1 _ _ (by omega)
/-- the reference's row with M numbers taken out at F, the end at Z -/
def clo (a : Nat → Int32) (F M Z : Nat) : Nat → Int32 := fun s => if F ≤ s ∧ s < Z - M then a (s + M) else if Z - M ≤ s ∧ s < Z then 0 else a s
