/-! THE COST BY THE TABLE -/
theorem nI_mul12 (f x : Nat) : nI f * 12 + nI x = nI (f * 12 + x) := by
  rw [show (12 : Int32) = nI 12 from rfl, pk_mul, nI_add]
theorem w_least {p : Nat → Nat} {n f d : Nat} {σ : Mem} {Q : Int32 → Mem → Prop} {E : String → Mem → Prop} (hn : n ≤ 12) (hs : sumN p n ≤ 20480) (hd : 0 < d) (hfd : f + d < n)
    (hT : ∀ m : Nat, m < d → rd σ 10 5 (f * 12 + (f + m)) = nI (cC p m f) ∧ rd σ 10 5 ((f + m + 1) * 12 + (f + d)) = nI (cC p (d - 1 - m) (f + m + 1))) (h : Q (nI (mnF 2147483647 (cF p d f) d)) σ) : wX9_leastOfTable (nI f) (nI (f + d)) σ Q E := by
  have key : ∀ u m : Nat, m + u = d → wX9_leastOfTable_6 Q E (fun x s => Q x s) (u + 1) (nI f) (nI (f + d)) (nI (mnF 2147483647 (cF p d f) m)) (nI (f + m)) σ := by
    intro u
    induction u with
    | zero =>
      intro m hm
      obtain rfl : m = d := by omega
      exact ⟨fun _ => h, fun r => absurd (nI_le (Nat.le_refl _) (by omega)) r⟩
    | succ u ih =>
      intro m hm
      have hh := ih (m + 1) (by omega)
      have b1 := cC_b p n hn hs (d := m) (f := f) (by omega)
      have b2 := cC_b p n hn hs (d := d - 1 - m) (f := f + m + 1) (by omega)
      have b3 : mnF 2147483647 (cF p d f) m ≤ 2147483647 := mnF_leU
      refine ⟨fun r => absurd r (nI_ge (by omega) (by omega)), fun _ => ?_⟩
      show vp_in (nI f * 12 + nI (f + m)) (iaLen 5) ∧ vp_in ((nI (f + m) + 1) * 12 + nI (f + d)) (iaLen 5) ∧ ∀ v3 : Int32, v3 = (if (rd σ 10 5 (nI f * 12 + nI (f + m)).toNatClampNeg + rd σ 10 5 ((nI (f + m) + 1) * 12 + nI (f + d)).toNatClampNeg) < nI (mnF 2147483647 (cF p d f) m) then (rd σ 10 5 (nI f * 12 + nI (f + m)).toNatClampNeg + rd σ 10 5 ((nI (f + m) + 1) * 12 + nI (f + d)).toNatClampNeg) else nI (mnF 2147483647 (cF p d f) m)) → ∀ v4 : Int32, v4 = nI (f + m) + 1 → wX9_leastOfTable_6 Q E (fun x s => Q x s) (u + 1) (nI f) (nI (f + d)) v3 v4 σ
      rw [nI_1, nI_mul12, nI_mul12, nI_clamp (by omega), nI_clamp (by omega), (hT m (by omega)).1, (hT m (by omega)).2, nI_add]
      refine ⟨vp_in_nI (show f * 12 + (f + m) < 144 by omega) (by decide), vp_in_nI (show (f + m + 1) * 12 + (f + d) < 144 by omega) (by decide), fun v3 h3 v4 h4 => ?_⟩
      have e : v3 = nI (mnF 2147483647 (cF p d f) (m + 1)) := by
        rw [h3]
        show _ = nI (if cC p m f + cC p (d - 1 - m) (f + m + 1) < mnF 2147483647 (cF p d f) m then cC p m f + cC p (d - 1 - m) (f + m + 1) else mnF 2147483647 (cF p d f) m)
        by_cases c : cC p m f + cC p (d - 1 - m) (f + m + 1) < mnF 2147483647 (cF p d f) m
        · rw [if_pos c, if_pos (nI_lt c (by omega))]
        · rw [if_neg c, if_neg (nI_nlt (by omega) (by omega))]
      rw [e, h4]
      exact hh
  exact ⟨d + 1, key d 0 (by omega)⟩
/-- the table from row f0 on -/
def Tb (p : Nat → Nat) (n k f0 : Nat) (σ : Mem) : Prop := ∀ f d : Nat, f0 ≤ f → f + d < n → rd σ 10 k (f * 12 + (f + d)) = nI (cC p d f)
theorem w_table {p : Nat → Nat} {n : Nat} {σ : Mem} {Q : Int32 → Mem → Prop} {E : String → Mem → Prop} (hn : n ≤ 12) (hs : sumN p n ≤ 20480) (h1 : ∀ q : Nat, q < n → 1 ≤ p q) (h9 : rd σ 0 9 1 = nI n) (hp : ∀ q : Nat, q < n → rd σ 1 9 q = nI (p q))
    (h : ∀ τ : Mem, (∀ f k s : Nat, ¬ (f = 10 ∧ k = 5) → rd τ f k s = rd σ f k s) → τ.2 = σ.2 → Q (nI (cC p (n - 1) 0)) τ) : wX9_costByTable σ Q E := by
  have row : ∀ (X : Int32 → Int32 → Mem → Prop) (f : Nat), f < n → ∀ (u d : Nat) (σ' : Mem), f + d + u = n → 0 < d → (∀ f k s : Nat, ¬ (f = 10 ∧ k = 5) → rd σ' f k s = rd σ f k s) → σ'.2 = σ.2 → Tb p n 5 (f + 1) σ' → (∀ m : Nat, m < d → rd σ' 10 5 (f * 12 + (f + m)) = nI (cC p m f)) →
      (∀ τ : Mem, (∀ f k s : Nat, ¬ (f = 10 ∧ k = 5) → rd τ f k s = rd σ f k s) → τ.2 = σ.2 → Tb p n 5 f τ → X (nI n) (nI f) τ) → wX9_costByTable_36 Q E X (u + 1) (nI n) (nI f) (nI (sR p f d)) (nI (f + d)) σ' := by
    intro X f hf u
    induction u with
    | zero =>
      intro d σ' hu hd p1 p2 p3 p4 hX
      obtain rfl : f + d = n := by omega
      refine ⟨fun _ => hX σ' p1 p2 (fun f' d' h1 h2 => ?_), fun r => absurd (nI_le (Nat.le_refl _) (by omega)) r⟩
      by_cases c : f' = f
      · subst c
        exact p4 d' (by omega)
      · exact p3 f' d' (by omega) h2
    | succ u ih =>
      intro d σ' hu hd p1 p2 p3 p4 hX
      have e9 : rd σ' 0 9 1 = nI n := (p1 0 9 1 (by omega)).trans h9
      have ep : rd σ' 1 9 (f + d) = nI (p (f + d)) := (p1 1 9 _ (by omega)).trans (hp (f + d) (by omega))
      refine ⟨fun r => absurd r (nI_ge (by omega) (by omega)), fun _ => ?_⟩
      refine w_get (k := 9) (n := n) (i := f + d) e9 (by omega) hn rfl ?_
      rw [ep]
      intro v4 h4
      rw [nI_add, show sR p f d + p (f + d) = sR p f (d + 1) from rfl] at h4
      subst h4
      refine w_least (p := p) (n := n) hn hs hd (by omega) (fun m hm => ⟨p4 m hm, ?_⟩) ?_
      · have q := p3 (f + m + 1) (d - 1 - m) (by omega) (by omega)
        rw [show f + m + 1 + (d - 1 - m) = f + d by omega] at q
        exact q
      · have g1 : d + 1 ≤ sR p f (d + 1) := sR_ge (n := n) (by omega) h1
        have el : nI (sR p f (d + 1)) - (nI (f + d) - nI f - 1) = nI (wC p f d) := by
          obtain ⟨e, rfl⟩ : ∃ e, d = e + 1 := ⟨d - 1, by omega⟩
          rw [pk_sub (by omega), show f + (e + 1) - f = e + 1 by omega, nI_pred, pk_sub (by omega)]
          rfl
        show vp_in (nI f * 12 + nI (f + d)) (iaLen 5) ∧ ∀ s19 : Mem, s19 = wr σ' 10 5 (nI f * 12 + nI (f + d)).toNatClampNeg (nI (mnF 2147483647 (cF p d f) d) + (nI (sR p f (d + 1)) - (nI (f + d) - nI f - 1))) → ∀ v5 : Int32, v5 = nI (f + d) + 1 → wX9_costByTable_36 Q E X (u + 1) (nI n) (nI f) (nI (sR p f (d + 1))) v5 s19
        rw [nI_mul12, nI_clamp (by omega), el, nI_add, ← cC_eq p hd (by omega), nI_1]
        refine ⟨vp_in_nI (show f * 12 + (f + d) < 144 by omega) (by decide), fun s19 h19 v5 h5 => ?_⟩
        rw [h5]
        refine ih (d + 1) s19 (by omega) (by omega) (fun f' k s n1 => ?_) (by rw [h19]; exact p2) (fun f' d' q1 q2 => ?_) (fun m hm => ?_) hX
        · rw [h19, rd_wr, if_neg (by omega)]
          exact p1 f' k s n1
        · rw [h19, rd_wr, if_neg (by omega)]
          exact p3 f' d' q1 q2
        · rw [h19, rd_wr]
          by_cases c : m = d
          · subst c
            rw [if_pos ⟨rfl, rfl, rfl⟩]
          · rw [if_neg (by omega)]
            exact p4 m (by omega)
  have outer : ∀ (X : Int32 → Mem → Prop), (∀ τ : Mem, (∀ f k s : Nat, ¬ (f = 10 ∧ k = 5) → rd τ f k s = rd σ f k s) → τ.2 = σ.2 → Tb p n 5 0 τ → X (nI n) τ) →
      ∀ (f : Nat) (σ' : Mem), f < n → (∀ f k s : Nat, ¬ (f = 10 ∧ k = 5) → rd σ' f k s = rd σ f k s) → σ'.2 = σ.2 → Tb p n 5 (f + 1) σ' → wX9_costByTable_9 Q E X (f + 2) (nI n) (nI f) σ' := by
    intro X hX f
    induction f with
    | zero =>
      intro σ' hf p1 p2 p3
      refine ⟨fun r => absurd r (nI_pos (by omega)), fun _ => ?_⟩
      refine w_get (k := 9) (n := n) (i := 0) ((p1 0 9 1 (by omega)).trans h9) hf hn rfl ?_
      rw [p1 1 9 0 (by omega), hp 0 hf]
      show vp_in (nI 0 * 12 + nI 0) (iaLen 5) ∧ ∀ s8 : Mem, s8 = wr σ' 10 5 (nI 0 * 12 + nI 0).toNatClampNeg 0 → _
      rw [nI_mul12, nI_clamp (by omega)]
      refine ⟨vp_in_nI (show 0 * 12 + 0 < 144 by omega) (by decide), fun s8 h8 v5 h5 => ?_⟩
      rw [nI_1] at h5
      subst h5
      have e1 : sR p 0 1 = p 0 := Nat.zero_add _
      rw [← e1]
      refine ⟨n - 1 + 1, row _ 0 hf (n - 1) 1 s8 (by omega) (by omega) (fun f' k s n1 => ?_) (by rw [h8]; exact p2) (fun f' d' q1 q2 => ?_) (fun m hm => ?_) (fun τ t1 t2 t3 v3 h3 => ?_)⟩
      · rw [h8, rd_wr, if_neg (by omega)]
        exact p1 f' k s n1
      · rw [h8, rd_wr, if_neg (by omega)]
        exact p3 f' d' q1 q2
      · obtain rfl : m = 0 := by omega
        rw [h8, rd_wr, if_pos ⟨rfl, rfl, rfl⟩, cC_0]
        rfl
      · subst h3
        exact ⟨fun _ => hX τ t1 t2 t3, fun r => absurd (show nI 0 + (-1) < 0 by decide) r⟩
    | succ f ih =>
      intro σ' hf p1 p2 p3
      refine ⟨fun r => absurd r (nI_pos (by omega)), fun _ => ?_⟩
      refine w_get (k := 9) (n := n) (i := f + 1) ((p1 0 9 1 (by omega)).trans h9) hf hn rfl ?_
      rw [p1 1 9 (f + 1) (by omega), hp (f + 1) hf]
      show vp_in (nI (f + 1) * 12 + nI (f + 1)) (iaLen 5) ∧ ∀ s8 : Mem, s8 = wr σ' 10 5 (nI (f + 1) * 12 + nI (f + 1)).toNatClampNeg 0 → _
      rw [nI_mul12, nI_clamp (by omega)]
      refine ⟨vp_in_nI (show (f + 1) * 12 + (f + 1) < 144 by omega) (by decide), fun s8 h8 v5 h5 => ?_⟩
      rw [nI_1] at h5
      subst h5
      have e1 : sR p (f + 1) 1 = p (f + 1) := Nat.zero_add _
      rw [← e1]
      refine ⟨n - (f + 2) + 1, row _ (f + 1) hf (n - (f + 2)) 1 s8 (by omega) (by omega) (fun f' k s n1 => ?_) (by rw [h8]; exact p2) (fun f' d' q1 q2 => ?_) (fun m hm => ?_) (fun τ t1 t2 t3 v3 h3 => ?_)⟩
      · rw [h8, rd_wr, if_neg (by omega)]
        exact p1 f' k s n1
      · rw [h8, rd_wr, if_neg (by omega)]
        exact p3 f' d' q1 q2
      · obtain rfl : m = 0 := by omega
        rw [h8, rd_wr, if_pos ⟨rfl, rfl, rfl⟩, cC_0]
        rfl
      · rw [pk_m1] at h3
        subst h3
        exact ih τ (by omega) t1 t2 t3
  unfold wX9_costByTable wX7_size
  rw [h9]
  intro v3 h3
  cases n with
  | zero =>
    refine ⟨1, fun _ => ⟨fun r => absurd r (by decide), fun _ => ?_⟩, fun r => absurd (show v3 < 0 by rw [h3]; decide) r⟩
    have := h σ (fun _ _ _ _ => rfl) rfl
    rw [cC_0] at this
    exact this
  | succ n =>
    rw [nI_pred] at h3
    subst h3
    refine ⟨n + 2, outer _ (fun τ t1 t2 t3 => ?_) n σ (by omega) (fun _ _ _ _ => rfl) rfl (fun f d q1 q2 => absurd q1 (by omega))⟩
    rw [show (2 : Int32) = nI 2 from rfl, nI_leI (by omega) (by omega), nI_pred]
    have e := t3 0 n (by omega) (by omega)
    refine ⟨fun _ => ?_, fun c => ?_⟩
    · show vp_in (0 * 12 + nI n) (iaLen 5) ∧ Q (rd τ 10 5 (0 * 12 + nI n).toNatClampNeg) τ
      rw [show (0 : Int32) * 12 + nI n = nI n from by rw [show (0 : Int32) = nI 0 from rfl, nI_mul12]; congr 1; omega, nI_clamp (by omega)]
      rw [show 0 * 12 + (0 + n) = n by omega] at e
      rw [e]
      exact ⟨vp_in_nI (show n < 144 by omega) (by decide), h τ t1 t2⟩
    · obtain rfl : n = 0 := by omega
      have := h τ t1 t2
      rw [cC_0] at this
      exact this
