/-! THE COST BY MEMORY -/
/-- what is remembered is right -/
def Mb (p : Nat → Nat) (n : Nat) (σ : Mem) : Prop := ∀ f d : Nat, f + d < n → rd σ 10 6 (f * 12 + (f + d)) = -1 ∨ rd σ 10 6 (f * 12 + (f + d)) = nI (cC p d f)
theorem w_divide {p : Nat → Nat} {n : Nat} (hn : n ≤ 12) (hs : sumN p n ≤ 20480) (h1 : ∀ q : Nat, q < n → 1 ≤ p q) {E : String → Mem → Prop} : ∀ (k d f : Nat) (σ : Mem) (Q : Int32 → Mem → Prop), d < k → f + d < n → rd σ 0 9 1 = nI n → (∀ q : Nat, q < n → rd σ 1 9 q = nI (p q)) → Mb p n σ →
    (∀ τ : Mem, (∀ f k s : Nat, ¬ (f = 10 ∧ k = 6) → rd τ f k s = rd σ f k s) → τ.2 = σ.2 → Mb p n τ → Q (nI (cC p d f)) τ) → wX9_divide k (nI f) (nI (f + d)) σ Q E := by
  intro k
  induction k with
  | zero => intro d f σ Q hd; exact absurd hd (Nat.not_lt_zero d)
  | succ k ih =>
    intro d f σ Q hd hfd h9 hp hM h
    unfold wX9_divide
    rw [nI_ltI (by omega) (by omega)]
    refine ⟨fun c => ?_, fun c => ?_⟩
    rotate_left
    · obtain rfl : d = 0 := by omega
      have := h σ (fun _ _ _ _ => rfl) rfl hM
      rw [cC_0] at this
      exact this
    have hd0 : 0 < d := by omega
    show vp_in (nI f * 12 + nI (f + d)) (iaLen 6) ∧ ((rd σ 10 6 (nI f * 12 + nI (f + d)).toNatClampNeg = -1 → _) ∧ (¬ rd σ 10 6 (nI f * 12 + nI (f + d)).toNatClampNeg = -1 → vp_in (nI f * 12 + nI (f + d)) (iaLen 6) ∧ Q (rd σ 10 6 (nI f * 12 + nI (f + d)).toNatClampNeg) σ))
    rw [nI_mul12, nI_clamp (by omega)]
    have vin : vp_in (nI (f * 12 + (f + d))) (iaLen 6) := vp_in_nI (show f * 12 + (f + d) < 144 by omega) (by decide)
    refine ⟨vin, fun _ => ?_, fun q => ⟨vin, ?_⟩⟩
    rotate_left
    · rcases hM f d hfd with z | z
      · exact absurd z q
      · rw [z]
        exact h σ (fun _ _ _ _ => rfl) rfl hM
    refine w_get (k := 9) (n := n) (i := f + d) h9 hfd hn rfl ?_
    rw [hp (f + d) hfd]
    have loop : ∀ (X : Int32 → Int32 → Int32 → Int32 → Mem → Prop) (u m : Nat) (σ' : Mem), m + u = d → (∀ f k s : Nat, ¬ (f = 10 ∧ k = 6) → rd σ' f k s = rd σ f k s) → σ'.2 = σ.2 → Mb p n σ' →
        (∀ τ : Mem, (∀ f k s : Nat, ¬ (f = 10 ∧ k = 6) → rd τ f k s = rd σ f k s) → τ.2 = σ.2 → Mb p n τ → X (nI f) (nI (f + d)) (nI (mnF 2147483647 (cF p d f) d)) (nI (p (f + d) + sR p f d)) τ) →
        wX9_divide_40 Q E (fun a3_ a4_ τ Q2 => wX9_divide k a3_ a4_ τ Q2 E) X (u + 1) (nI f) (nI (f + d)) (nI (mnF 2147483647 (cF p d f) m)) (nI (p (f + d) + sR p f m)) (nI (f + m)) σ' := by
      intro X u
      induction u with
      | zero =>
        intro m σ' hm p1 p2 p3 hX
        obtain rfl : m = d := by omega
        exact ⟨fun _ => hX σ' p1 p2 p3, fun r => absurd (nI_le (Nat.le_refl _) (by omega)) r⟩
      | succ u ihu =>
        intro m σ' hm p1 p2 p3 hX
        have b1 := cC_b p n hn hs (d := m) (f := f) (by omega)
        have b2 := cC_b p n hn hs (d := d - 1 - m) (f := f + m + 1) (by omega)
        have b3 : mnF 2147483647 (cF p d f) m ≤ 2147483647 := mnF_leU
        refine ⟨fun r => absurd r (nI_ge (by omega) (by omega)), fun _ => ?_⟩
        refine ih m f σ' _ (by omega) (by omega) ((p1 0 9 1 (by omega)).trans h9) (fun q hq => (p1 1 9 q (by omega)).trans (hp q hq)) p3 (fun τ t1 t2 t3 => ?_)
        have k1 : ∀ f k s : Nat, ¬ (f = 10 ∧ k = 6) → rd τ f k s = rd σ f k s := fun f k s n1 => (t1 f k s n1).trans (p1 f k s n1)
        rw [nI_1, show nI (f + d) = nI (f + m + 1 + (d - 1 - m)) by congr 1; omega]
        refine ih (d - 1 - m) (f + m + 1) τ _ (by omega) (by omega) ((k1 0 9 1 (by omega)).trans h9) (fun q hq => (k1 1 9 q (by omega)).trans (hp q hq)) t3 (fun y y1 y2 y3 v7 h7 v4 h4 => ?_)
        have k2 : ∀ f k s : Nat, ¬ (f = 10 ∧ k = 6) → rd y f k s = rd σ f k s := fun f k s n1 => (y1 f k s n1).trans (k1 f k s n1)
        rw [nI_add] at h7
        subst h7
        have e4 : v4 = nI (mnF 2147483647 (cF p d f) (m + 1)) := by
          rw [h4]
          show _ = nI (if cC p m f + cC p (d - 1 - m) (f + m + 1) < mnF 2147483647 (cF p d f) m then cC p m f + cC p (d - 1 - m) (f + m + 1) else mnF 2147483647 (cF p d f) m)
          by_cases c : cC p m f + cC p (d - 1 - m) (f + m + 1) < mnF 2147483647 (cF p d f) m
          · rw [if_pos c, if_pos (nI_lt c (by omega))]
          · rw [if_neg c, if_neg (nI_nlt (by omega) (by omega))]
        refine w_get (k := 9) (n := n) (i := f + m) ((k2 0 9 1 (by omega)).trans h9) (by omega) hn rfl ?_
        rw [k2 1 9 _ (by omega), hp (f + m) (by omega)]
        intro v5 h5 v6 h6
        rw [nI_add, Nat.add_assoc, show sR p f m + p (f + m) = sR p f (m + 1) from rfl] at h5
        rw [e4, h5, h6, show nI (f + m + 1 + (d - 1 - m)) = nI (f + d) by congr 1; omega]
        exact ihu (m + 1) y (by omega) k2 (y2.trans (t2.trans p2)) y3 hX
    refine ⟨d + 1, loop _ d 0 σ (by omega) (fun _ _ _ _ => rfl) rfl hM (fun τ t1 t2 t3 => ?_)⟩
    have g1 : d + 1 ≤ sR p f (d + 1) := sR_ge (n := n) (by omega) h1
    have es : p (f + d) + sR p f d = sR p f (d + 1) := Nat.add_comm _ _
    have el : nI (sR p f (d + 1)) - (nI (f + d) - nI f - 1) = nI (wC p f d) := by
      obtain ⟨e, rfl⟩ : ∃ e, d = e + 1 := ⟨d - 1, by omega⟩
      rw [pk_sub (by omega), show f + (e + 1) - f = e + 1 by omega, nI_pred, pk_sub (by omega)]
      rfl
    rw [es]
    show vp_in (nI f * 12 + nI (f + d)) (iaLen 6) ∧ ∀ s24 : Mem, s24 = wr τ 10 6 (nI f * 12 + nI (f + d)).toNatClampNeg (nI (mnF 2147483647 (cF p d f) d) + (nI (sR p f (d + 1)) - (nI (f + d) - nI f - 1))) → vp_in (nI f * 12 + nI (f + d)) (iaLen 6) ∧ Q (rd s24 10 6 (nI f * 12 + nI (f + d)).toNatClampNeg) s24
    rw [nI_mul12, nI_clamp (by omega), el, nI_add, ← cC_eq p hd0 (by omega)]
    refine ⟨vin, fun s24 h24 => ⟨vin, ?_⟩⟩
    have er : rd s24 10 6 (f * 12 + (f + d)) = nI (cC p d f) := by rw [h24, rd_wr, if_pos ⟨rfl, rfl, rfl⟩]
    rw [er]
    refine h s24 (fun f' k' s n1 => ?_) (by rw [h24]; exact t2) (fun f' d' q => ?_)
    · rw [h24, rd_wr, if_neg (by omega)]
      exact t1 f' k' s n1
    · by_cases c : f' * 12 + (f' + d') = f * 12 + (f + d)
      · have e1 : f' = f := by omega
        subst e1
        have e2 : d' = d := by omega
        subst e2
        exact Or.inr er
      · rw [h24, rd_wr, if_neg (by omega)]
        exact t3 f' d' q
theorem w_memory {p : Nat → Nat} {n : Nat} {σ : Mem} {Q : Int32 → Mem → Prop} {E : String → Mem → Prop} (hn : n ≤ 12) (hs : sumN p n ≤ 20480) (h1 : ∀ q : Nat, q < n → 1 ≤ p q) (h9 : rd σ 0 9 1 = nI n) (hp : ∀ q : Nat, q < n → rd σ 1 9 q = nI (p q))
    (h : ∀ τ : Mem, (∀ f k s : Nat, ¬ (f = 10 ∧ k = 6) → rd τ f k s = rd σ f k s) → τ.2 = σ.2 → Q (nI (cC p (n - 1) 0)) τ) : wX9_costByMemory σ Q E := by
  have key : ∀ (X : Mem → Prop) (u m : Nat) (σ' : Mem), m + u = 144 → (∀ f k s : Nat, ¬ (f = 10 ∧ k = 6) → rd σ' f k s = rd σ f k s) → σ'.2 = σ.2 → (∀ s : Nat, s < m → rd σ' 10 6 s = -1) →
      (∀ τ : Mem, (∀ f k s : Nat, ¬ (f = 10 ∧ k = 6) → rd τ f k s = rd σ f k s) → τ.2 = σ.2 → (∀ s : Nat, s < 144 → rd τ 10 6 s = -1) → X τ) → wX9_costByMemory_2 Q E X (u + 1) (nI m) σ' := by
    intro X u
    induction u with
    | zero =>
      intro m σ' hm p1 p2 p3 hX
      obtain rfl : m = 144 := by omega
      exact ⟨fun _ => hX σ' p1 p2 p3, fun r => absurd (show nI (iaLen 6) ≤ nI 144 by decide) r⟩
    | succ u ih =>
      intro m σ' hm p1 p2 p3 hX
      refine ⟨fun r => absurd (show nI 144 ≤ nI m from r) (nI_ge (by omega) (by omega)), fun _ => ⟨vp_in_nI (show m < 144 by omega) (by decide), fun s1 hs1 v hv => ?_⟩⟩
      rw [nI_1] at hv
      subst hv
      rw [nI_clamp (by omega)] at hs1
      refine ih (m + 1) s1 (by omega) (fun f k s n1 => ?_) (by rw [hs1]; exact p2) (fun s hs' => ?_) hX
      · rw [hs1, rd_wr, if_neg (by omega)]
        exact p1 f k s n1
      · rw [hs1, rd_wr]
        by_cases c : s = m
        · rw [if_pos ⟨rfl, rfl, c⟩]
        · rw [if_neg (by omega)]
          exact p3 s (by omega)
  unfold wX9_costByMemory
  refine ⟨145, key _ 144 0 σ (by omega) (fun _ _ _ _ => rfl) rfl (fun s hs' => absurd hs' (Nat.not_lt_zero s)) (fun τ t1 t2 t3 => ?_)⟩
  unfold wX7_size
  rw [t1 0 9 1 (by omega), h9]
  have hM : Mb p n τ := fun f d q => Or.inl (t3 _ (by omega))
  cases n with
  | zero =>
    refine ⟨fun q => absurd q (by decide), fun _ => ?_⟩
    have := h τ t1 t2
    rw [cC_0] at this
    exact this
  | succ n =>
    show wX9_divide 13 0 (nI (n + 1) - 1) τ (fun r6 s7 => Q r6 s7) E
    rw [nI_pred]
    have := w_divide hn hs h1 (E := E) 13 n 0 τ (fun r6 s7 => Q r6 s7) (by omega) (by omega) ((t1 0 9 1 (by omega)).trans h9) (fun q hq => (t1 1 9 q (by omega)).trans (hp q hq)) hM (fun y y1 y2 _ => h y (fun f k s n1 => (y1 f k s n1).trans (t1 f k s n1)) (y2.trans t2))
    rw [Nat.zero_add] at this
    exact this
