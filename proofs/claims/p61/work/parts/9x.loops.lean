/-! THE LAW'S LOOPS OVER A ROW -/
theorem w_alike2 {k k2 : Nat} {σ : Mem} {Q : Int32 → Mem → Prop} {E : String → Mem → Prop} {X17 X25 : Mem → Prop} (h0 : ∀ s : Nat, s < 110 → rd σ 19 k s = rd σ 19 k2 s) (h : X25 σ) : ∀ d i : Nat, d + i = 110 → wL_areAlike_2 k k2 Q E X17 X25 (d + 1) (nI i) σ := by
  intro d
  induction d with
  | zero =>
    intro i e
    obtain rfl : i = 110 := by omega
    exact ⟨fun _ => h, fun q => absurd (Int32.le_refl _) q⟩
  | succ d ih =>
    intro i e
    refine ⟨fun q => absurd q (nI_ge (a := i) (b := 110) (by omega) (by decide)), fun _ => ⟨vp_in_nI (by omega) (by decide), vp_in_nI (by omega) (by decide), fun _ v2 hv2 => ?_, fun q => ?_⟩⟩
    · subst hv2
      rw [nI_1]
      exact ih (i + 1) (by omega)
    · rw [nI_clamp (by omega)] at q
      exact absurd (h0 i (by omega)) q
theorem w_alike {k k2 : Nat} {σ : Mem} {Q : Int32 → Mem → Prop} {E : String → Mem → Prop} (h0 : ∀ s : Nat, s < 110 → rd σ 19 k s = rd σ 19 k2 s) (h : Q 1 σ) : wL_areAlike k k2 σ Q E := ⟨111, w_alike2 h0 h 110 0 rfl⟩
theorem and_pos (r : Int32) : ∃ m : Nat, m < 2 ^ 31 ∧ r &&& 2147483647 = nI m := by
  refine ⟨(r &&& 2147483647).toUInt32.toNat, ?_, (nI_u _).symm⟩
  show (r.toBitVec &&& (2147483647 : Int32).toBitVec).toNat < 2 ^ 31
  rw [BitVec.toNat_and]
  exact Nat.lt_of_le_of_lt Nat.and_le_right (by decide)
theorem w_cell {S : Scr} {i : Nat} {σ : Mem} {Q : Int32 → Mem → Prop} {E : String → Mem → Prop} (hS : S.1 ≤ 260) (hi : i < 2 ^ 20) (h : ∀ r : Int32, Q r σ) : wL_cell S (nI i) σ Q E := by
  refine ⟨fun _ _ _ _ _ => h _, fun c => ⟨?_, fun _ _ _ _ => h _⟩⟩
  rw [nI_leI (by omega) (by omega)] at c
  exact vp_in_nI (by omega) (by omega)
theorem w_in {S : Scr} {i n : Nat} {x y : Int32} {σ : Mem} {Q : Int32 → Mem → Prop} {E : String → Mem → Prop} (hS : S.1 ≤ 260) (hx : x = nI i) (hi : i < 2 ^ 20) (hy : y = nI n) (hn : 0 < n) (hn2 : n < 2 ^ 31) (h : ∀ r : Nat, r < n → Q (nI r) σ) : wL_in S x y σ Q E := by
  subst hx hy
  refine w_cell hS hi (fun r => ⟨nI_ne0 (by omega) hn2, ?_⟩)
  obtain ⟨m, hm, e⟩ := and_pos r
  rw [e, pk_rem hm hn hn2]
  exact h _ (Nat.mod_lt _ hn)
theorem Asc.lt {n t : Nat} {f : Nat → Int32} {x : Int32} (h : Asc n f x t) (ht : t ≤ 512) {q q' : Nat} (hq : q < q') (hq' : q' < n) : f q < f q' := by
  obtain ⟨d, m, h1, h2, h3, h4⟩ := h
  have g := h3 q (by omega)
  have g' := h3 q' hq'
  rw [g.1, g'.1, nI_ltI (by omega) (by omega)]
  exact h4 q q' hq hq'
section WL
variable {t nB nO nP : Nat} {a : Nat → Int32} {σ : Mem} {Q : Int32 → Mem → Prop} {E : String → Mem → Prop}
theorem w_wellB (ht : t ≤ 512) (F : Fits t nB nO nP a) (G : Srt t nB nO a) (S : Same σ 0 nB nO nP a) {X : Mem → Prop} {Y : Int32 → Int32 → Int32 → Int32 → Mem → Prop} {v1 v2 v4 v5 : Int32} (h : Y v1 v2 v4 v5 σ) : ∀ d i : Nat, d + i = nB → wL_isWell_66 Q E X Y (d + 1) v1 v2 (nI nB) v4 v5 (nI i) σ := by
  have hB := F.1.1
  intro d
  induction d with
  | zero =>
    intro i e
    obtain rfl : i = nB := by omega
    exact ⟨fun _ => h, fun q => absurd (Int32.le_refl _) q⟩
  | succ d ih =>
    intro i e
    have hi : i < nB := by omega
    refine ⟨fun q => absurd q (nI_ge hi (by omega)), fun _ => ⟨fun _ v6 hv => ?_, fun c => ?_⟩⟩
    · subst hv
      rw [nI_1]
      exact ih (i + 1) (by omega)
    · have h0 : i ≠ 0 := by
        rintro rfl
        exact c (Int32.le_refl _)
      obtain ⟨j, rfl⟩ : ∃ j, i = j + 1 := ⟨i - 1, by omega⟩
      rw [nI_pred]
      refine q_baleAt S hB (by omega) (q_baleAt S hB hi ⟨fun _ v6 hv => ?_, fun q => absurd (G.2.1.lt ht (Nat.lt_succ_self j) hi) q⟩)
      subst hv
      rw [nI_1]
      exact ih (j + 1 + 1) (by omega)
theorem w_wellP (F : Fits t nB nO nP a) (S : Same σ 0 nB nO nP a) {p : Nat → Nat} (hp : ∀ q : Nat, q < nP → 1 ≤ p q ∧ a (78 + q) = nI (p q)) (hs : sumN p nP ≤ 2 ^ 28) {X : Mem → Prop} {Y : Int32 → Int32 → Int32 → Int32 → Mem → Prop} {v1 v2 : Int32} (h : Y v1 v2 (nI nP) (nI (sumN p nP)) σ) : ∀ d i : Nat, d + i = nP → wL_isWell_316 Q E X Y (d + 1) v1 v2 (nI nP) (nI (sumN p i)) (nI i) σ := by
  have hP := F.1.2.2.1
  intro d
  induction d with
  | zero =>
    intro i e
    obtain rfl : i = nP := by omega
    exact ⟨fun _ => h, fun q => absurd (Int32.le_refl _) q⟩
  | succ d ih =>
    intro i e
    have hi : i < nP := by omega
    obtain ⟨p1, p2⟩ := hp i hi
    have p3 := sumN_ge (p := p) hi
    refine ⟨fun q => absurd q (nI_ge hi (by omega)), fun _ => q_pieceLength S hP hi (fun v9 hv9 => ?_)⟩
    rw [p2]
    refine ⟨fun q => ?_, fun _ => q_testP S hP hi (w_worthAt S.2.2.2.1 hi hP rfl ?_)⟩
    · rw [show (1 : Int32) = nI 1 from rfl, nI_ltI (by omega) (by decide)] at q
      omega
    · rw [show rd σ 1 9 i = nI (p i) from (S.2.2.2.2.2.2 i hi).trans p2]
      have e9 : v9 = nI (sumN p (i + 1)) := by
        rw [hv9, p2, nI_add]
        rfl
      have nx : ∀ v10 : Int32, v10 = nI i + 1 → wL_isWell_316 Q E X Y (d + 1) v1 v2 (nI nP) v9 v10 σ := by
        intro v10 hv
        subst hv
        rw [nI_1, e9]
        exact ih (i + 1) (by omega)
      refine ⟨fun c => ⟨fun _ => nx, fun q => absurd ?_ q⟩, fun c => ⟨fun _ => nx, fun q => absurd ?_ q⟩⟩
      · unfold wth
        rw [if_pos c]
        exact Int32.mul_comm _ _
      · unfold wth
        rw [if_neg c]
        exact Int32.mul_comm _ _
def mxN (M : Nat → Nat) : Nat → Nat
  | 0 => 0
  | n + 1 => if mxN M n < M n then M n else mxN M n
theorem mxN_le {M : Nat → Nat} {b : Nat} : ∀ n : Nat, (∀ q : Nat, q < n → M q ≤ b) → mxN M n ≤ b
  | 0, _ => Nat.zero_le b
  | n + 1, h => by
    have g := mxN_le n (fun q hq => h q (by omega))
    have g2 := h n (by omega)
    unfold mxN
    split <;> omega
theorem ord_lwb (F : Fits t nB nO nP a) : ∃ l w : Nat → Nat, ∀ q : Nat, q < nO → a (55 + 3 * q) = nI (l q) ∧ a (56 + 3 * q) = nI (w q) ∧ (1 ≤ l q ∧ l q ≤ 40) ∧ 1 ≤ w q ∧ w q ≤ 9 := by
  have g := F.2.2.2.2.2.2.1
  refine ⟨fun q => (a (55 + 3 * q)).toNatClampNeg, fun q => (a (56 + 3 * q)).toNatClampNeg, fun q hq => ?_⟩
  obtain ⟨-, ⟨l, l1, l2, l3⟩, w, w1, w2, w3⟩ := g q hq
  show a (55 + 3 * q) = nI (a (55 + 3 * q)).toNatClampNeg ∧ a (56 + 3 * q) = nI (a (56 + 3 * q)).toNatClampNeg ∧ (1 ≤ (a (55 + 3 * q)).toNatClampNeg ∧ (a (55 + 3 * q)).toNatClampNeg ≤ 40) ∧ 1 ≤ (a (56 + 3 * q)).toNatClampNeg ∧ (a (56 + 3 * q)).toNatClampNeg ≤ 9
  rw [l3, w3, nI_clamp (by omega), nI_clamp (by omega)]
  exact ⟨rfl, rfl, ⟨l1, l2⟩, w1, w2⟩
theorem w_wellO (ht : t ≤ 512) (F : Fits t nB nO nP a) (G : Srt t nB nO a) (S : Same σ 0 nB nO nP a) {l w : Nat → Nat} (hlw : ∀ q : Nat, q < nO → a (55 + 3 * q) = nI (l q) ∧ a (56 + 3 * q) = nI (w q) ∧ (1 ≤ l q ∧ l q ≤ 40) ∧ 1 ≤ w q ∧ w q ≤ 9) {X : Mem → Prop} {Y : Int32 → Int32 → Int32 → Int32 → Int32 → Int32 → Mem → Prop} {v1 v2 : Int32} (h : Y v1 v2 (nI nO) (nI nP) (nI (sumN (fun q => l q * w q) nO)) (nI (mxN (fun q => l q * w q) nO)) σ) : ∀ d i : Nat, d + i = nO → wL_isWell_111 Q E X Y (d + 1) v1 v2 (nI nO) (nI nP) (nI (sumN (fun q => l q * w q) i)) (nI (mxN (fun q => l q * w q) i)) (nI i) σ := by
  have hO := F.1.2.1
  have hP := F.1.2.2.1
  obtain ⟨r, hr2, hr⟩ := F.2.2.1
  have hM : ∀ q : Nat, q < nO → l q * w q ≤ 360 := fun q hq => Nat.mul_le_mul (hlw q hq).2.2.1.2 (hlw q hq).2.2.2.2
  intro d
  induction d with
  | zero =>
    intro i e
    obtain rfl : i = nO := by omega
    exact ⟨fun _ => h, fun q => absurd (Int32.le_refl _) q⟩
  | succ d ih =>
    intro i e
    have hi : i < nO := by omega
    obtain ⟨hl, hw, ⟨hl1, hl2⟩, hw1, hw2⟩ := hlw i hi
    have hpc := pcs_le (w := w i) hl2
    have hm := hM i hi
    have hmx : mxN (fun q => l q * w q) i ≤ 360 := mxN_le i (fun q hq => hM q (by omega))
    have em : a (55 + 3 * i) * a (56 + 3 * i) = nI (l i * w i) := by rw [hl, hw, pk_mul]
    refine ⟨fun q => absurd q (nI_ge hi (by omega)), fun _ => q_orderAt S hO hi (q_minutesOf ht S G hO hi (fun v6 hv6 => q_minutesOf ht S G hO hi (fun v7 hv7 => q_twistOf ht S G hO hi (fun v10 hv10 => q_lengthOf ht S G hO hi ⟨?_, fun v11 hv11 => ?_⟩))))⟩
    · rw [hv10, hw, show (3 : Int32) + nI (w i) = nI (3 + w i) from nI_add 3 (w i)]
      exact nI_ne0 (by omega) (by omega)
    have e6 : v6 = nI (sumN (fun q => l q * w q) (i + 1)) := by
      rw [hv6, em, nI_add]
      rfl
    have e7 : v7 = nI (mxN (fun q => l q * w q) (i + 1)) := by
      rw [hv7, em]
      show _ = nI (if mxN (fun q => l q * w q) i < l i * w i then l i * w i else mxN (fun q => l q * w q) i)
      by_cases c : mxN (fun q => l q * w q) i < l i * w i
      · rw [if_pos c, if_pos ((nI_ltI (by omega) (by omega)).mpr c)]
      · rw [if_neg c, if_neg (fun z => c ((nI_ltI (by omega) (by omega)).mp z))]
    have e11 : v11 = nI (pcs (l i) (w i)) := by
      obtain ⟨m, hm9⟩ : ∃ m, l i + (3 + w i) = m + 1 := ⟨l i + (3 + w i) - 1, by omega⟩
      rw [hv11, hv10, hw, hl, show (3 : Int32) + nI (w i) = nI (3 + w i) from nI_add 3 (w i), nI_add, hm9, nI_pred, pk_div (by omega) (by omega) (by omega)]
      unfold pcs
      rw [hm9]
      rfl
    refine q_minutesOf ht S G hO hi (q_lengthOf ht S G hO hi (q_twistOf ht S G hO hi ⟨fun q => absurd rfl q, fun _ => q_canSpin ht S F G hi ?_⟩))
    show wX12_lengthOf (a (54 + 3 * i)) σ _ E
    refine q_lengthOf ht S G hO hi ?_
    rw [show rd σ 4 0 3 = nI r from S.1.2.1.trans hr, hl, e11, nI_add]
    have ec : csp nP a i = if l i ≤ r ∧ nP + pcs (l i) (w i) ≤ 12 then 1 else 0 := by
      unfold csp
      rw [hr, hl, hw, nI_clamp (by omega), nI_clamp (by omega), nI_clamp (by omega)]
    have nx : ∀ v8 : Int32, v8 = nI i + 1 → wL_isWell_111 Q E X Y (d + 1) v1 v2 (nI nO) (nI nP) v6 v7 v8 σ := by
      intro v8 hv
      subst hv
      rw [nI_1, e6, e7]
      exact ih (i + 1) (by omega)
    rw [ec]
    refine ⟨fun c => ?_, fun c => ⟨fun c2 => ?_, fun c2 => ?_⟩⟩
    · rw [nI_ltI (by omega) (by omega)] at c
      rw [if_neg (by omega)]
      exact ⟨fun _ => nx, fun q => absurd rfl q⟩
    · rw [show (12 : Int32) = nI 12 from rfl, nI_ltI (by decide) (by omega)] at c2
      rw [if_neg (by omega)]
      exact ⟨fun _ => nx, fun q => absurd rfl q⟩
    · rw [nI_ltI (by omega) (by omega)] at c
      rw [show (12 : Int32) = nI 12 from rfl, nI_ltI (by decide) (by omega)] at c2
      rw [if_pos (by omega)]
      exact ⟨fun _ => nx, fun q => absurd rfl q⟩
end WL
