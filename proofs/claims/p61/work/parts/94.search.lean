/-! THE SEARCH FOR A BLEND -/
theorem BCx.on2 {σ τ : Mem} {n : Nat} {w s z : Nat → Nat} (h : ∀ f k s : Nat, f ≤ 1 ∨ f = 10 → rd τ f k s = rd σ f k s) (B : BCx σ n w s z) : BCx τ n w s z := by
  obtain ⟨b1, ⟨b2, b3, b4, b5⟩, b6, b7, b8, b9, b10⟩ := B
  refine ⟨b1, ⟨(h 0 0 1 (by omega)).trans b2, (h 0 1 1 (by omega)).trans b3, (h 0 2 1 (by omega)).trans b4, (h 0 4 1 (by omega)).trans b5⟩, fun q hq => ?_, b7, (h 10 0 0 (by omega)).trans b8, (h 10 1 0 (by omega)).trans b9, (h 10 2 0 (by omega)).trans b10⟩
  obtain ⟨c1, c2, c3⟩ := b6 q hq
  exact ⟨(h 1 1 q (by omega)).trans c1, (h 1 2 q (by omega)).trans c2, (h 1 4 q (by omega)).trans c3⟩
/-- some set of the k bales from p on, put to what was taken, is a blend of value x at most -/
def ExtW (w s z : Nat → Nat) (nd sp : Nat) : Nat → Nat → Nat → Nat → Nat → Nat → Prop
  | 0, _, W, P, V, x => nd ≤ W ∧ sp * W ≤ P ∧ V ≤ x
  | k + 1, p, W, P, V, x => ExtW w s z nd sp k (p + 1) (W + w p) (P + pP w s p) (V + pP w z p) x ∨ ExtW w s z nd sp k (p + 1) W P V x
theorem Ext_here {w s z : Nat → Nat} {nd sp W P V x : Nat} (h1 : nd ≤ W) (h2 : sp * W ≤ P) (h3 : V ≤ x) : ∀ k p : Nat, ExtW w s z nd sp k p W P V x := by
  intro k
  induction k with
  | zero => intro p; exact ⟨h1, h2, h3⟩
  | succ k ih => intro p; exact Or.inr (ih (p + 1))
theorem Ext_le {w s z : Nat → Nat} {nd sp x : Nat} : ∀ k p W P V : Nat, ExtW w s z nd sp k p W P V x → V ≤ x := by
  intro k
  induction k with
  | zero => intro p W P V h; exact h.2.2
  | succ k ih =>
    intro p W P V h
    rcases h with h | h
    · have := ih _ _ _ _ h
      omega
    · exact ih _ _ _ _ h
theorem sumN_shift (f : Nat → Nat) (k : Nat) : sumN f (k + 1) = f 0 + sumN (fun i => f (i + 1)) k := by
  induction k with
  | zero =>
    show 0 + f 0 = f 0 + 0
    omega
  | succ k ih =>
    show sumN f (k + 1) + f (k + 1) = f 0 + (sumN (fun i => f (i + 1)) k + f (k + 1))
    rw [ih, Nat.add_assoc]
theorem sB_half (T : Nat → Nat) (e k : Nat) : sB T e (k + 1) = (if e % 2 = 1 then T 0 else 0) + sB (fun i => T (i + 1)) (e / 2) k := by
  unfold sB
  rw [sumN_shift]
  congr 1
  · rw [Nat.testBit_zero]
    simp
  · exact sumN_cg fun q _ => by rw [Nat.testBit_succ]
theorem Ext_iff {w s z : Nat → Nat} {nd sp x : Nat} : ∀ k p W P V : Nat, ExtW w s z nd sp k p W P V x ↔ ∃ e : Nat, e < 2 ^ k ∧ nd ≤ W + sB (fun i => w (p + i)) e k ∧ sp * (W + sB (fun i => w (p + i)) e k) ≤ P + sB (fun i => pP w s (p + i)) e k ∧ V + sB (fun i => pP w z (p + i)) e k ≤ x := by
  intro k
  induction k with
  | zero =>
    intro p W P V
    constructor
    · rintro ⟨h1, h2, h3⟩
      exact ⟨0, by decide, h1, h2, h3⟩
    · rintro ⟨e, -, h1, h2, h3⟩
      exact ⟨h1, h2, h3⟩
  | succ k ih =>
    intro p W P V
    have sh : ∀ T : Nat → Nat, (fun i => T (p + (i + 1))) = fun i => T (p + 1 + i) := fun T => funext fun i => congrArg T (by omega)
    constructor
    · rintro (h | h)
      · obtain ⟨e, h0, h1, h2, h3⟩ := (ih _ _ _ _).mp h
        refine ⟨2 * e + 1, by rw [Nat.pow_succ]; omega, ?_⟩
        rw [sB_half, sB_half, sB_half, if_pos (by omega), if_pos (by omega), if_pos (by omega), show (2 * e + 1) / 2 = e by omega, sh w, sh (pP w s), sh (pP w z), ← Nat.add_assoc, ← Nat.add_assoc, ← Nat.add_assoc]
        exact ⟨h1, h2, h3⟩
      · obtain ⟨e, h0, h1, h2, h3⟩ := (ih _ _ _ _).mp h
        refine ⟨2 * e, by rw [Nat.pow_succ]; omega, ?_⟩
        rw [sB_half, sB_half, sB_half, if_neg (by omega), if_neg (by omega), if_neg (by omega), show 2 * e / 2 = e by omega, sh w, sh (pP w s), sh (pP w z), Nat.zero_add, Nat.zero_add, Nat.zero_add]
        exact ⟨h1, h2, h3⟩
    · rintro ⟨e, h0, h1, h2, h3⟩
      rw [Nat.pow_succ] at h0
      rw [sB_half, sh w] at h1
      rw [sB_half, sB_half, sh w, sh (pP w s)] at h2
      rw [sB_half, sh (pP w z)] at h3
      by_cases c : e % 2 = 1
      · rw [if_pos c, ← Nat.add_assoc] at h1 h3
        rw [if_pos c, if_pos c, ← Nat.add_assoc, ← Nat.add_assoc] at h2
        exact Or.inl ((ih _ _ _ _).mpr ⟨e / 2, by omega, h1, h2, h3⟩)
      · rw [if_neg c, Nat.zero_add] at h1 h3
        rw [if_neg c, if_neg c, Nat.zero_add, Nat.zero_add] at h2
        exact Or.inr ((ih _ _ _ _).mpr ⟨e / 2, by omega, h1, h2, h3⟩)
theorem w_search {n nd sp : Nat} {w s z : Nat → Nat} {E : String → Mem → Prop} (hnd : nd ≤ 500) (hsp : sp ≤ 60) : ∀ (d p W P V c : Nat) (σ : Mem) (Q : Mem → Prop), n - p < d → p ≤ n → W ≤ 50 * p → P ≤ 3000 * p → V ≤ 1000 * p → c ≤ 2147483647 → BCx σ n w s z → rd σ 7 0 3 = nI nd → rd σ 7 0 4 = nI sp → rd σ 7 0 5 = nI c →
    (∀ (τ : Mem) (c' : Nat), (∀ f k s : Nat, ¬ (f = 7 ∧ k = 0 ∧ s = 5) → rd τ f k s = rd σ f k s) → τ.2 = σ.2 → rd τ 7 0 5 = nI c' → c' ≤ c → (∀ x : Nat, c' ≤ x ↔ c ≤ x ∨ ExtW w s z nd sp (n - p) p W P V x) → Q τ) → wX2_search d (nI p) (nI W) (nI P) (nI V) σ Q E := by
  intro d
  induction d with
  | zero => intro p W P V c σ Q hd; exact absurd hd (Nat.not_lt_zero _)
  | succ d ih =>
    intro p W P V c σ Q hd hp hW hP hV hc B r3 r4 r5 h
    have hn := B.1
    have go : ¬ (nd ≤ W ∧ sp * W ≤ P) → wX2_search_36 Q E (fun a3_ a4_ a5_ a6_ τ Q2 => wX2_search d a3_ a4_ a5_ a6_ τ Q2 E) (nI p) (nI W) (nI P) (nI V) σ := by
      intro hsat
      show (nI p < rd σ 0 0 1 → _) ∧ (¬ nI p < rd σ 0 0 1 → Q σ)
      rw [B.2.1.1, nI_ltI (by omega) (by omega)]
      refine ⟨fun c1 => ?_, fun c1 => ?_⟩
      rotate_left
      · refine h σ c (fun _ _ _ _ => rfl) rfl r5 (Nat.le_refl c) (fun x => ⟨fun q => Or.inl q, fun q => ?_⟩)
        rcases q with q | q
        · exact q
        · rw [show n - p = 0 by omega] at q
          exact absurd ⟨q.1, q.2.1⟩ hsat
      obtain ⟨c2, c3, c4⟩ := B.2.2.1 p c1
      obtain ⟨⟨-, k1⟩, ⟨-, k2⟩, -, k3⟩ := B.2.2.2.1 p c1
      have m1 : w p * s p ≤ 3000 := Nat.mul_le_mul k1 k2
      have m2 : w p * z p ≤ 1000 := Nat.mul_le_mul k1 k3
      refine w_get (k := 1) (n := n) (i := p) B.2.1.2.1 c1 hn rfl (w_get (k := 2) (n := n) (i := p) B.2.1.2.2.1 c1 hn rfl (w_get (k := 4) (n := n) (i := p) B.2.1.2.2.2 c1 hn rfl ?_))
      rw [c2, c3, c4, pk_mul, nI_add, nI_add, nI_add, nI_1]
      refine ih (p + 1) (W + w p) (P + w p * s p) (V + w p * z p) c σ _ (by omega) (by omega) (by omega) (by omega) (by omega) hc B r3 r4 r5 (fun τ c' t1 t2 t3 t4 t5 => ?_)
      have B' : BCx τ n w s z := B.on2 fun f k s hf => t1 f k s (by omega)
      refine ih (p + 1) W P V c' τ _ (by omega) (by omega) (by omega) (by omega) (by omega) (by omega) B' ((t1 7 0 3 (by omega)).trans r3) ((t1 7 0 4 (by omega)).trans r4) t3 (fun y c'' y1 y2 y3 y4 y5 => ?_)
      refine h y c'' (fun f k s q => (y1 f k s q).trans (t1 f k s q)) (y2.trans t2) y3 (by omega) (fun x => ?_)
      rw [y5 x, t5 x, show n - p = n - (p + 1) + 1 by omega, or_assoc]
      rfl
    unfold wX2_search
    rw [r5, r3, r4, nI_ltI (by omega) (by omega), nI_ltI (by omega) (by omega)]
    have hm : sp * W ≤ 60 * 500 := Nat.mul_le_mul hsp (by omega)
    rw [pk_mul, nI_ltI (by omega) (by omega)]
    refine ⟨fun cV => ⟨fun c1 => go (by omega), fun c1 => ⟨fun c2 => go (by omega), fun c2 s13 h13 => ?_⟩⟩, fun cV => ?_⟩
    · refine h s13 V (fun f k s q => by rw [h13, rd_wr, if_neg q]) (by rw [h13]; rfl) (by rw [h13, rd_wr, if_pos ⟨rfl, rfl, rfl⟩]) (by omega) (fun x => ⟨fun q => Or.inr (Ext_here (by omega) (by omega) q _ _), fun q => ?_⟩)
      rcases q with q | q
      · omega
      · exact Ext_le _ _ _ _ _ q
    · refine h σ c (fun _ _ _ _ => rfl) rfl r5 (Nat.le_refl c) (fun x => ⟨fun q => Or.inl q, fun q => ?_⟩)
      rcases q with q | q
      · exact q
      · have := Ext_le _ _ _ _ _ q
        omega
theorem bF_spec (w s z : Nat → Nat) (n nd sp i : Nat) : (bF w s z n nd sp i = 0 → ∀ x : Nat, 1 ≤ x → x ≤ i → okB (sB w x n) (sB (pP w s) x n) nd sp = false) ∧
    (bF w s z n nd sp i ≠ 0 → okB (sB w (bF w s z n nd sp i) n) (sB (pP w s) (bF w s z n nd sp i) n) nd sp = true ∧ ∀ x : Nat, 1 ≤ x → x ≤ i → okB (sB w x n) (sB (pP w s) x n) nd sp = true → sB (pP w z) (bF w s z n nd sp i) n ≤ sB (pP w z) x n) := by
  induction i with
  | zero => exact ⟨fun _ x h1 h2 => absurd h1 (by omega), fun q => absurd rfl q⟩
  | succ i ih =>
    obtain ⟨ih0, ih1⟩ := ih
    have ee : bF w s z n nd sp (i + 1) = if okB (sB w (i + 1) n) (sB (pP w s) (i + 1) n) nd sp && (decide (bF w s z n nd sp i = 0) || btB w z n (i + 1) (bF w s z n nd sp i)) then i + 1 else bF w s z n nd sp i := rfl
    rw [ee]
    by_cases c : (okB (sB w (i + 1) n) (sB (pP w s) (i + 1) n) nd sp && (decide (bF w s z n nd sp i = 0) || btB w z n (i + 1) (bF w s z n nd sp i))) = true
    · rw [if_pos c]
      rw [Bool.and_eq_true] at c
      refine ⟨fun q => absurd q (by omega), fun _ => ⟨c.1, fun x h1 h2 h3 => ?_⟩⟩
      by_cases e : x = i + 1
      · rw [e]
        exact Nat.le_refl _
      · by_cases z0 : bF w s z n nd sp i = 0
        · rw [ih0 z0 x h1 (by omega)] at h3
          cases h3
        · have le1 := (ih1 z0).2 x h1 (by omega) h3
          have c2 := c.2
          rw [Bool.or_eq_true, decide_eq_true_iff] at c2
          rcases c2 with c2 | c2
          · exact absurd c2 z0
          · unfold btB at c2
            rw [Bool.or_eq_true, Bool.and_eq_true, decide_eq_true_iff, decide_eq_true_iff] at c2
            omega
    · rw [if_neg c]
      refine ⟨fun q x h1 h2 => ?_, fun q => ⟨(ih1 q).1, fun x h1 h2 h3 => ?_⟩⟩
      · by_cases e : x = i + 1
        · rw [e]
          cases ho : okB (sB w (i + 1) n) (sB (pP w s) (i + 1) n) nd sp with
          | true =>
            rw [ho, q] at c
            exact absurd rfl c
          | false => rfl
        · exact ih0 q x h1 (by omega)
      · by_cases e : x = i + 1
        · subst e
          rw [h3, Bool.true_and] at c
          have c2 : btB w z n (i + 1) (bF w s z n nd sp i) = false := by
            cases hb : btB w z n (i + 1) (bF w s z n nd sp i) with
            | true =>
              rw [hb, Bool.or_true] at c
              exact absurd rfl c
            | false => rfl
          unfold btB at c2
          rw [Bool.or_eq_false_iff, decide_eq_false_iff_not] at c2
          omega
        · exact (ih1 q).2 x h1 (by omega) h3
/-- both ways give one value -/
theorem ways_eq {w s z : Nat → Nat} {n nd sp c' : Nat} (hnd : 1 ≤ nd) (hV : ∀ x : Nat, sB (pP w z) x n ≤ 10000) (h : ∀ x : Nat, c' ≤ x ↔ 2147483647 ≤ x ∨ ExtW w s z nd sp n 0 0 0 0 x) : (bF w s z n nd sp (2 ^ n - 1) = 0 → c' = 2147483647) ∧ (bF w s z n nd sp (2 ^ n - 1) ≠ 0 → c' = sB (pP w z) (bF w s z n nd sp (2 ^ n - 1)) n) := by
  have ex : ∀ x : Nat, ExtW w s z nd sp n 0 0 0 0 x ↔ ∃ e : Nat, e < 2 ^ n ∧ okB (sB w e n) (sB (pP w s) e n) nd sp = true ∧ sB (pP w z) e n ≤ x := by
    intro x
    rw [Ext_iff]
    have z0 : ∀ T : Nat → Nat, (fun i => T (0 + i)) = T := fun T => funext fun i => congrArg T (Nat.zero_add i)
    rw [z0 w, z0 (pP w s), z0 (pP w z)]
    simp only [Nat.zero_add, okB, Bool.and_eq_true, decide_eq_true_iff, and_assoc]
  have ne : ∀ e : Nat, okB (sB w e n) (sB (pP w s) e n) nd sp = true → 1 ≤ e := by
    intro e he
    by_cases c : e = 0
    · subst c
      rw [sB_0, sB_0] at he
      simp only [okB, Bool.and_eq_true, decide_eq_true_iff] at he
      omega
    · omega
  obtain ⟨b0, b1⟩ := bF_spec w s z n nd sp (2 ^ n - 1)
  have p1 : 1 ≤ 2 ^ n := Nat.one_le_two_pow
  refine ⟨fun q => ?_, fun q => ?_⟩
  · have h1 := (h c').mp (Nat.le_refl c')
    rcases h1 with h1 | h1
    · have := (h 2147483647).mpr (Or.inl (Nat.le_refl _))
      omega
    · obtain ⟨e, e1, e2, e3⟩ := (ex c').mp h1
      have := b0 q e (ne e e2) (by omega)
      rw [this] at e2
      cases e2
  · obtain ⟨b2, b3⟩ := b1 q
    have hb := bF_le w s z n nd sp (2 ^ n - 1)
    have hv := hV (bF w s z n nd sp (2 ^ n - 1))
    have h2 := (h (sB (pP w z) (bF w s z n nd sp (2 ^ n - 1)) n)).mpr (Or.inr ((ex _).mpr ⟨_, by omega, b2, Nat.le_refl _⟩))
    have h1 := (h c').mp (Nat.le_refl c')
    rcases h1 with h1 | h1
    · omega
    · obtain ⟨e, e1, e2, e3⟩ := (ex c').mp h1
      have := b3 e (ne e e2) (by omega) e2
      omega
/-- the value of the best blend, or -1 -/
def bV (w s z : Nat → Nat) (n nd sp : Nat) : Int32 := if bF w s z n nd sp (2 ^ n - 1) = 0 then -1 else nI (sB (pP w z) (bF w s z n nd sp (2 ^ n - 1)) n)
def FS7 (σ τ : Mem) : Prop := (∀ f k s : Nat, ¬ f = 7 → rd τ f k s = rd σ f k s) ∧ τ.2 = σ.2
theorem w_valueSearch {n nd sp : Nat} {x1 x2 : Int32} {w s z : Nat → Nat} {σ : Mem} {Q : Int32 → Mem → Prop} {E : String → Mem → Prop} (hx1 : x1 = nI nd) (hx2 : x2 = nI sp) (B : BCx σ n w s z) (h1 : 1 ≤ nd) (hnd : nd ≤ 500) (hsp : sp ≤ 60) (h : ∀ τ : Mem, FS7 σ τ → Q (bV w s z n nd sp) τ) : wX2_valueBySearch x1 x2 σ Q E := by
  subst hx1
  subst hx2
  intro s1 g1 s2 g2 s3 g3
  have fr : ∀ f k s : Nat, ¬ f = 7 → rd s3 f k s = rd σ f k s := fun f k s n => by rw [g3, rd_wr, if_neg (by omega), g2, rd_wr, if_neg (by omega), g1, rd_wr, if_neg (by omega)]
  have B3 : BCx s3 n w s z := B.on2 fun f k s hf => fr f k s (by omega)
  have hn := B.1
  refine w_search (n := n) hnd hsp 12 0 0 0 0 2147483647 s3 _ (by omega) (by omega) (by omega) (by omega) (by omega) (by omega) B3 (by rw [g3, rd_wr, if_neg (by omega), g2, rd_wr, if_neg (by omega), g1, rd_wr, if_pos ⟨rfl, rfl, rfl⟩]) (by rw [g3, rd_wr, if_neg (by omega), g2, rd_wr, if_pos ⟨rfl, rfl, rfl⟩]) (by rw [g3, rd_wr, if_pos ⟨rfl, rfl, rfl⟩]; rfl) (fun τ c' t1 t2 t3 t4 t5 => ?_)
  obtain ⟨w0, w1⟩ := ways_eq h1 (fun x => (bc_b B x).2.2) t5
  have F7 : FS7 σ τ := ⟨fun f k s n => (t1 f k s (by omega)).trans (fr f k s n), by rw [t2, g3, g2, g1]; rfl⟩
  have hq := h τ F7
  unfold bV at hq
  rw [t3, show (2147483647 : Int32) = nI 2147483647 from rfl, nI_eq (by omega) (by omega)]
  by_cases c : bF w s z n nd sp (2 ^ n - 1) = 0
  · rw [if_pos c] at hq
    exact ⟨fun q => absurd (w0 c) q, fun _ => hq⟩
  · rw [if_neg c] at hq
    have hv := (bc_b B (bF w s z n nd sp (2 ^ n - 1))).2.2
    have e := w1 c
    refine ⟨fun _ => ?_, fun q => absurd q (by omega)⟩
    rw [e]
    exact hq
theorem w_valueSets {n nd sp : Nat} {x1 x2 : Int32} {w s z : Nat → Nat} {σ : Mem} {Q : Int32 → Mem → Prop} {E : String → Mem → Prop} (hx1 : x1 = nI nd) (hx2 : x2 = nI sp) (B : BCx σ n w s z) (hnd : nd ≤ 500) (hsp : sp ≤ 60) (h : ∀ τ : Mem, FB σ τ → Q (bV w s z n nd sp) τ) : wX2_valueByAllSets x1 x2 σ Q E := by
  refine w_bestSet hx1 hx2 B hnd hsp (fun τ t1 t2 => ?_)
  have hq := h τ t1
  unfold bV at hq
  have hbl := bF_le w s z n nd sp (2 ^ n - 1)
  obtain ⟨hB1, hB2⟩ := p2_le' B.1
  have e0 : nI (bF w s z n nd sp (2 ^ n - 1)) = 0 ↔ bF w s z n nd sp (2 ^ n - 1) = 0 := by rw [show (0 : Int32) = nI 0 from rfl, nI_eq (by omega) (by omega)]
  rw [e0]
  by_cases c : bF w s z n nd sp (2 ^ n - 1) = 0
  · rw [if_pos c] at hq
    exact ⟨fun q => absurd c q, fun _ => hq⟩
  · rw [if_neg c] at hq
    obtain ⟨-, -, cv⟩ := t2 (bF w s z n nd sp (2 ^ n - 1)) (by omega)
    refine ⟨fun _ => ⟨vp_in_nI (show bF w s z n nd sp (2 ^ n - 1) < 1024 by omega) (by decide), ?_⟩, fun q => absurd q c⟩
    rw [nI_clamp (by omega), cv]
    exact hq
