/-! THE REFERENCE'S COST -/
theorem sR_cat2 (p : Nat → Nat) (f a b : Nat) : sR p f (a + b) = sR p f a + sR p (f + a) b := by
  have h := sR_cat (fun q => p (f + q)) a b
  have e : sR (fun q => p (f + q)) a b = sR p (f + a) b := sumN_cg fun q _ => by
    show p (f + (a + q)) = p (f + a + q)
    rw [Nat.add_assoc]
  rw [e] at h
  exact h
theorem nI_12mul (f x : Nat) : 12 * nI f + nI x = nI (f * 12 + x) := by
  rw [show (12 : Int32) = nI 12 from rfl, pk_mul, nI_add, Nat.mul_comm]
theorem w_spliced {p : Nat → Nat} {n a e : Nat} {x1 x2 : Int32} {σ : Mem} {Q : Int32 → Mem → Prop} {E : String → Mem → Prop} (hx1 : x1 = nI a) (hx2 : x2 = nI (a + e)) (hn : n ≤ 12) (h1 : ∀ q : Nat, q < n → 1 ≤ p q) (hp : ∀ q : Nat, q < n → rd σ 10 8 (78 + q) = nI (p q)) (hae : a + e < n) (h : Q (nI (sR p a (e + 1) - e)) σ) : wX13_spliced x1 x2 σ Q E := by
  subst hx1
  subst hx2
  have hge : e + 1 ≤ sR p a (e + 1) := sR_ge (n := n) (by omega) h1
  have key : ∀ u m : Nat, m + u = e + 1 → wX13_spliced_7 Q E (fun x s => Q x s) (u + 1) (nI (a + e)) (nI a - nI (a + e) + nI (sR p a m)) (nI (a + m)) σ := by
    intro u
    induction u with
    | zero =>
      intro m hm
      obtain rfl : m = e + 1 := by omega
      refine ⟨fun _ => ?_, fun r => absurd (nI_lt (by omega) (by omega)) r⟩
      have ee : nI a - nI (a + e) + nI (sR p a (e + 1)) = nI (sR p a (e + 1) - e) := by
        have e1 : nI a - nI (a + e) + nI (sR p a (e + 1)) = nI a + nI (sR p a (e + 1)) - nI (a + e) := by grind
        rw [e1, nI_add, pk_sub (by omega)]
        congr 1
        omega
      show Q (nI a - nI (a + e) + nI (sR p a (e + 1))) σ
      rw [ee]
      exact h
    | succ u ih =>
      intro m hm
      have hh := ih (m + 1) (by omega)
      refine ⟨fun r => absurd r (nI_nlt (by omega) (by omega)), fun _ => ⟨(piece_ix (show a + m < 12 by omega)).1, fun v3 h3 v4 h4 => ?_⟩⟩
      rw [(piece_ix (show a + m < 12 by omega)).2, hp (a + m) (by omega), Int32.add_assoc, nI_add] at h3
      rw [nI_1] at h4
      rw [h3, h4]
      exact hh
  intro v hv
  refine ⟨e + 2, ?_⟩
  have k0 := key (e + 1) 0 (by omega)
  have e0 : nI a - nI (a + e) + nI (sR p a 0) = v := by
    rw [hv]
    show nI a - nI (a + e) + nI 0 = _
    rw [nI_0, Int32.add_zero]
  rw [e0] at k0
  exact k0
theorem w_cost40 {p : Nat → Nat} {n f d : Nat} {σ : Mem} {Q : Int32 → Mem → Prop} {E : String → Mem → Prop} {X : Int32 → Int32 → Int32 → Mem → Prop} (hn : n ≤ 12) (hs : sumN p n ≤ 20480) (h1 : ∀ q : Nat, q < n → 1 ≤ p q) (hp : ∀ q : Nat, q < n → rd σ 10 8 (78 + q) = nI (p q)) (hd : 0 < d) (hfd : f + d < n)
    (hT : ∀ m : Nat, m < d → rd σ 10 13 (f * 12 + (f + m)) = nI (cC p m f) ∧ rd σ 10 13 ((f + m + 1) * 12 + (f + d)) = nI (cC p (d - 1 - m) (f + m + 1))) (h : X (nI f) (nI (f + d)) (nI (cC p d f)) σ) : ∃ m : Nat, wX13_cost_40 Q E X m (nI f) (nI (f + d)) 999999 (nI f) σ := by
  obtain ⟨G, hG⟩ : ∃ G : Nat → Nat, G = fun m => cF p d f m + wC p f d := ⟨_, rfl⟩
  have hw := wC_b p hs hfd
  have bG : ∀ m : Nat, m < d → G m ≤ 999999 := by
    intro m hm
    have b1 := cC_b p n hn hs (d := m) (f := f) (by omega)
    have b2 := cC_b p n hn hs (d := d - 1 - m) (f := f + m + 1) (by omega)
    rw [hG]
    show cC p m f + cC p (d - 1 - m) (f + m + 1) + wC p f d ≤ 999999
    omega
  have fin : mnF 999999 G d = cC p d f := by
    have b0 := bG 0 hd
    rw [mnF_U (V := 2147483647 + wC p f d) hd b0 (by omega), hG, mnF_add, cC_eq p hd (by omega)]
  have key : ∀ u m : Nat, m + u = d → wX13_cost_40 Q E X (u + 1) (nI f) (nI (f + d)) (nI (mnF 999999 G m)) (nI (f + m)) σ := by
    intro u
    induction u with
    | zero =>
      intro m hm
      obtain rfl : m = d := by omega
      rw [fin]
      exact ⟨fun _ => h, fun r => absurd (nI_le (Nat.le_refl _) (by omega)) r⟩
    | succ u ih =>
      intro m hm
      have hh := ih (m + 1) (by omega)
      have b0 := bG m (by omega)
      have b3 : mnF 999999 G m ≤ 999999 := mnF_leU
      have g1 : m + 1 ≤ sR p f (m + 1) := sR_ge (n := n) (by omega) h1
      have g2 : d - 1 - m + 1 ≤ sR p (f + m + 1) (d - 1 - m + 1) := sR_ge (n := n) (by omega) h1
      have g3 : sR p f (d + 1) = sR p f (m + 1) + sR p (f + m + 1) (d - 1 - m + 1) := by
        rw [show d + 1 = (m + 1) + (d - 1 - m + 1) by omega, sR_cat2]
        rfl
      refine ⟨fun r => absurd r (nI_ge (by omega) (by omega)), fun _ => ?_⟩
      rw [nI_1, nI_12mul, nI_12mul, nI_clamp (by omega), nI_clamp (by omega), (hT m (by omega)).1, (hT m (by omega)).2]
      refine ⟨vp_in_nI (show f * 12 + (f + m) < 144 by omega) (by decide), vp_in_nI (show (f + m + 1) * 12 + (f + d) < 144 by omega) (by decide), ?_⟩
      refine w_spliced (p := p) (n := n) (a := f) (e := m) rfl rfl hn h1 hp (by omega) ?_
      refine w_spliced (p := p) (n := n) (a := f + m + 1) (e := d - 1 - m) rfl (by congr 1; omega) hn h1 hp (by omega) (fun v5 h5 => ?_)
      have e5 : v5 = nI (G m) := by
        rw [h5, nI_add, nI_add, nI_add, hG]
        show _ = nI (cC p m f + cC p (d - 1 - m) (f + m + 1) + (sR p f (d + 1) - (d - 1)))
        rw [g3]
        congr 1
        omega
      rw [e5, nI_leI (by omega) (by omega)]
      refine ⟨fun c v4 h4 => ?_, fun c v4 h4 => ?_⟩
      · rw [h4]
        have ee : mnF 999999 G (m + 1) = mnF 999999 G m := if_neg (by omega)
        rw [ee] at hh
        exact hh
      · rw [h4]
        have ee : mnF 999999 G (m + 1) = G m := if_pos (by omega)
        rw [ee] at hh
        exact hh
  exact ⟨d + 1, key d 0 (by omega)⟩
theorem w_cost {p : Nat → Nat} {n : Nat} {σ : Mem} {Q : Int32 → Mem → Prop} {E : String → Mem → Prop} (hn : n ≤ 12) (hs : sumN p n ≤ 20480) (h1 : ∀ q : Nat, q < n → 1 ≤ p q) (h13 : rd σ 10 8 13 = nI n) (hp : ∀ q : Nat, q < n → rd σ 10 8 (78 + q) = nI (p q))
    (h : ∀ τ : Mem, (∀ f k s : Nat, ¬ (f = 10 ∧ k = 13) → rd τ f k s = rd σ f k s) → τ.2 = σ.2 → Q (nI (cC p (n - 1) 0)) τ) : wX13_cost σ Q E := by
  have row : ∀ (X : Int32 → Mem → Prop) (f : Nat), f < n → ∀ (u d : Nat) (σ' : Mem), f + d + u = n → 0 < d → (∀ f k s : Nat, ¬ (f = 10 ∧ k = 13) → rd σ' f k s = rd σ f k s) → σ'.2 = σ.2 → Tb p n 13 (f + 1) σ' → (∀ m : Nat, m < d → rd σ' 10 13 (f * 12 + (f + m)) = nI (cC p m f)) →
      (∀ τ : Mem, (∀ f k s : Nat, ¬ (f = 10 ∧ k = 13) → rd τ f k s = rd σ f k s) → τ.2 = σ.2 → Tb p n 13 f τ → X (nI f) τ) → wX13_cost_23 Q E X (u + 1) (nI f) (nI (f + d)) σ' := by
    intro X f hf u
    induction u with
    | zero =>
      intro d σ' hu hd p1 p2 p3 p4 hX
      obtain rfl : f + d = n := by omega
      have e13 : rd σ' 10 8 13 = nI (f + d) := (p1 10 8 13 (by omega)).trans h13
      refine ⟨fun _ => hX σ' p1 p2 (fun f' d' h1 h2 => ?_), fun r => absurd (show rd σ' 10 8 13 ≤ nI (f + d) from e13 ▸ nI_le (Nat.le_refl _) (by omega)) r⟩
      by_cases c : f' = f
      · subst c
        exact p4 d' (by omega)
      · exact p3 f' d' (by omega) h2
    | succ u ih =>
      intro d σ' hu hd p1 p2 p3 p4 hX
      have e13 : rd σ' 10 8 13 = nI n := (p1 10 8 13 (by omega)).trans h13
      refine ⟨fun r => absurd (show nI n ≤ nI (f + d) from e13 ▸ r) (nI_ge (by omega) (by omega)), fun _ => ?_⟩
      refine w_cost40 (p := p) (n := n) hn hs h1 (fun q hq => (p1 10 8 _ (by omega)).trans (hp q hq)) hd (by omega) (fun m hm => ⟨p4 m hm, ?_⟩) ?_
      · have q := p3 (f + m + 1) (d - 1 - m) (by omega) (by omega)
        rw [show f + m + 1 + (d - 1 - m) = f + d by omega] at q
        exact q
      · rw [nI_12mul, nI_clamp (by omega)]
        refine ⟨vp_in_nI (show f * 12 + (f + d) < 144 by omega) (by decide), fun s19 h19 v5 h5 => ?_⟩
        rw [nI_1] at h5
        rw [h5]
        refine ih (d + 1) s19 (by omega) (by omega) (fun f' k s n1 => ?_) (by rw [h19]; exact p2) (fun f' d' q1 q2 => ?_) (fun m hm => ?_) hX
        · rw [h19, rd_wr, if_neg (by omega)]
          exact p1 f' k s n1
        · rw [h19, rd_wr, if_neg (by omega)]
          exact p3 f' d' q1 q2
        · rw [h19, rd_wr]
          by_cases c : m = d
          · subst c
            rw [if_pos ⟨rfl, rfl, rfl⟩]
          · rw [if_neg (by omega)]
            exact p4 m (by omega)
  have outer : ∀ (X : Mem → Prop), (∀ τ : Mem, (∀ f k s : Nat, ¬ (f = 10 ∧ k = 13) → rd τ f k s = rd σ f k s) → τ.2 = σ.2 → Tb p n 13 0 τ → X τ) →
      ∀ (f : Nat) (σ' : Mem), f < 12 → (∀ f k s : Nat, ¬ (f = 10 ∧ k = 13) → rd σ' f k s = rd σ f k s) → σ'.2 = σ.2 → Tb p n 13 (f + 1) σ' → wX13_cost_3 Q E X (f + 2) (nI f) σ' := by
    intro X hX f
    induction f with
    | zero =>
      intro σ' hf p1 p2 p3
      refine ⟨fun r => absurd r (nI_pos (by omega)), fun _ => ?_⟩
      rw [nI_12mul, nI_clamp (by omega)]
      refine ⟨vp_in_nI (show 0 * 12 + 0 < 144 by omega) (by decide), fun s8 h8 v5 h5 => ?_⟩
      rw [nI_1] at h5
      subst h5
      have q1 : ∀ f' k s : Nat, ¬ (f' = 10 ∧ k = 13) → rd s8 f' k s = rd σ f' k s := fun f' k s n1 => by
        rw [h8, rd_wr, if_neg (by omega)]
        exact p1 f' k s n1
      have q3 : Tb p n 13 (0 + 1) s8 := fun f' d' q1 q2 => by
        rw [h8, rd_wr, if_neg (by omega)]
        exact p3 f' d' q1 q2
      by_cases hfn : 0 < n
      · refine ⟨n - 1 + 1, row _ 0 hfn (n - 1) 1 s8 (by omega) (by omega) q1 (by rw [h8]; exact p2) q3 (fun m hm => ?_) (fun τ t1 t2 t3 v3 h3 => ?_)⟩
        · obtain rfl : m = 0 := by omega
          rw [h8, rd_wr, if_pos ⟨rfl, rfl, rfl⟩, cC_0]
          rfl
        · subst h3
          exact ⟨fun _ => hX τ t1 t2 t3, fun r => absurd (show nI 0 + (-1) < 0 by decide) r⟩
      · have e13 : rd s8 10 8 13 = nI n := (q1 10 8 13 (by omega)).trans h13
        refine ⟨1, fun _ v3 h3 => ?_, fun r => absurd (show rd s8 10 8 13 ≤ nI (0 + 1) from e13 ▸ nI_le (by omega) (by omega)) r⟩
        subst h3
        exact ⟨fun _ => hX s8 q1 (by rw [h8]; exact p2) (fun f' d' _ z => absurd z (by omega)), fun r => absurd (show nI 0 + (-1) < 0 by decide) r⟩
    | succ f ih =>
      intro σ' hf p1 p2 p3
      refine ⟨fun r => absurd r (nI_pos (by omega)), fun _ => ?_⟩
      rw [nI_12mul, nI_clamp (by omega)]
      refine ⟨vp_in_nI (show (f + 1) * 12 + (f + 1) < 144 by omega) (by decide), fun s8 h8 v5 h5 => ?_⟩
      rw [nI_1] at h5
      subst h5
      have q1 : ∀ f' k s : Nat, ¬ (f' = 10 ∧ k = 13) → rd s8 f' k s = rd σ f' k s := fun f' k s n1 => by
        rw [h8, rd_wr, if_neg (by omega)]
        exact p1 f' k s n1
      have q3 : Tb p n 13 (f + 1 + 1) s8 := fun f' d' q1 q2 => by
        rw [h8, rd_wr, if_neg (by omega)]
        exact p3 f' d' q1 q2
      by_cases hfn : f + 1 < n
      · refine ⟨n - (f + 2) + 1, row _ (f + 1) hfn (n - (f + 2)) 1 s8 (by omega) (by omega) q1 (by rw [h8]; exact p2) q3 (fun m hm => ?_) (fun τ t1 t2 t3 v3 h3 => ?_)⟩
        · obtain rfl : m = 0 := by omega
          rw [h8, rd_wr, if_pos ⟨rfl, rfl, rfl⟩, cC_0]
          rfl
        · rw [pk_m1] at h3
          subst h3
          exact ih τ (by omega) t1 t2 t3
      · have e13 : rd s8 10 8 13 = nI n := (q1 10 8 13 (by omega)).trans h13
        refine ⟨1, fun _ v3 h3 => ?_, fun r => absurd (show rd s8 10 8 13 ≤ nI (f + 1 + 1) from e13 ▸ nI_le (by omega) (by omega)) r⟩
        rw [pk_m1] at h3
        subst h3
        exact ih s8 (by omega) q1 (by rw [h8]; exact p2) (fun f' d' z1 z => absurd z (by omega))
  unfold wX13_cost
  refine ⟨13, outer _ (fun τ t1 t2 t3 => ?_) 11 σ (by omega) (fun _ _ _ _ => rfl) rfl (fun f d q1 q2 => absurd q1 (by omega))⟩
  have e13 : rd τ 10 8 13 = nI n := (t1 10 8 13 (by omega)).trans h13
  rw [e13, show (2 : Int32) = nI 2 from rfl, nI_leI (by omega) (by omega)]
  refine ⟨fun c => ?_, fun c => ?_⟩
  · obtain ⟨m, rfl⟩ : ∃ m, n = m + 1 := ⟨n - 1, by omega⟩
    have e := t3 0 m (by omega) (by omega)
    rw [show 0 * 12 + (0 + m) = m by omega] at e
    rw [nI_pred, nI_clamp (by omega), e]
    exact ⟨vp_in_nI (show m < 144 by omega) (by decide), h τ t1 t2⟩
  · have := h τ t1 t2
    rw [show n - 1 = 0 by omega, cC_0] at this
    exact this
