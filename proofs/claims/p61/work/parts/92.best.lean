/-! THE BEST BLEND -/
def okB (W P nd sp : Nat) : Bool := decide (nd ≤ W) && decide (sp * W ≤ P)
def tieB (x b : Nat) : Bool := !(decide ((nI x &&& (nI x ^^^ nI b)) &&& (-(nI x ^^^ nI b)) = 0))
def btB (w z : Nat → Nat) (n x b : Nat) : Bool := decide (sB (pP w z) x n < sB (pP w z) b n) || (decide (sB (pP w z) x n = sB (pP w z) b n) && (decide (sB w x n < sB w b n) || (decide (sB w x n = sB w b n) && tieB x b)))
/-- the best of the sets 1 .. i -/
def bF (w s z : Nat → Nat) (n nd sp : Nat) : Nat → Nat
  | 0 => 0
  | i + 1 => if okB (sB w (i + 1) n) (sB (pP w s) (i + 1) n) nd sp && (decide (bF w s z n nd sp i = 0) || btB w z n (i + 1) (bF w s z n nd sp i)) then i + 1 else bF w s z n nd sp i
theorem bF_le (w s z : Nat → Nat) (n nd sp i : Nat) : bF w s z n nd sp i ≤ i := by
  induction i with
  | zero => exact Nat.le_refl 0
  | succ i ih =>
    unfold bF
    split
    · exact Nat.le_refl _
    · exact Nat.le_succ_of_le ih
theorem bc_b {σ : Mem} {n : Nat} {w s z : Nat → Nat} (B : BCx σ n w s z) (x : Nat) : sB w x n ≤ 500 ∧ sB (pP w s) x n ≤ 30000 ∧ sB (pP w z) x n ≤ 10000 := by
  have hb := B.2.2.2.1
  exact ⟨sB_b (M := 50) (Nat.le_refl n) B.1 fun q hq => (hb q hq).1.2, sB_b (M := 3000) (Nat.le_refl n) B.1 fun q hq => Nat.mul_le_mul (hb q hq).1.2 (hb q hq).2.1.2, sB_b (M := 1000) (Nat.le_refl n) B.1 fun q hq => Nat.mul_le_mul (hb q hq).1.2 (hb q hq).2.2.2⟩
theorem w_betterC {n x b : Nat} {w s z : Nat → Nat} {σ : Mem} {Q : Int32 → Mem → Prop} {E : String → Mem → Prop} (B : BCx σ n w s z) (T : Tab σ n n w s z) (hx : x < 2 ^ n) (hb : b < 2 ^ n) (h1 : btB w z n x b = true → Q 1 σ) (h0 : btB w z n x b = false → Q 0 σ) : wX2_isBetter (nI x) (nI b) σ Q E := by
  obtain ⟨-, hB2⟩ := p2_le' B.1
  obtain ⟨x1, -, x3⟩ := T x hx
  obtain ⟨b1, -, b3⟩ := T b hb
  obtain ⟨y1, -, y3⟩ := bc_b B x
  obtain ⟨y4, -, y6⟩ := bc_b B b
  have vx : vp_in (nI x) (iaLen 0) := vp_in_nI (show x < 1024 by omega) (by decide)
  have vb : vp_in (nI b) (iaLen 0) := vp_in_nI (show b < 1024 by omega) (by decide)
  unfold btB tieB at h1 h0
  unfold wX2_isBetter
  rw [nI_clamp (by omega), nI_clamp (by omega), x3, b3, x1, b1, nI_eq (by omega) (by omega), nI_eq (by omega) (by omega), nI_leI (by omega) (by omega), nI_leI (by omega) (by omega)]
  generalize sB (pP w z) x n = Vx at *
  generalize sB (pP w z) b n = Vb at *
  generalize sB w x n = Wx at *
  generalize sB w b n = Wb at *
  refine ⟨vx, vb, fun c1 => ⟨vx, vb, fun c2 v3 hv => ?_, fun c2 => ⟨vx, vb, fun c3 => h0 ?_, fun c3 => h1 ?_⟩⟩, fun c1 => ⟨vx, vb, fun c3 => h0 ?_, fun c3 => h1 ?_⟩⟩
  · subst hv
    refine ⟨fun c3 => h0 ?_, fun c3 => h1 ?_⟩
    · simp [c1, c2, c3]
    · simp [c1, c2, c3]
  · have d : ¬ Wx < Wb := by omega
    simp [c1, c2, d]
  · have d : Wx < Wb := by omega
    simp [c1, d]
  · have d : ¬ Vx < Vb := by omega
    simp [c1, d]
  · have d : Vx < Vb := by omega
    simp [d]
theorem w_best11 {n nd sp : Nat} {w s z : Nat → Nat} {σ : Mem} {Q : Int32 → Mem → Prop} {E : String → Mem → Prop} {X : Int32 → Mem → Prop} (B : BCx σ n w s z) (T : Tab σ n n w s z) (hnd : nd ≤ 500) (hsp : sp ≤ 60) (h : X (nI (bF w s z n nd sp (2 ^ n - 1))) σ) : ∃ m : Nat, wX2_bestSet_11 Q E X m (nI nd) (nI sp) 0 1 σ := by
  have hn := B.1
  obtain ⟨hB1, hB2⟩ := p2_le' hn
  have key : ∀ m i : Nat, i + 1 + m = 2 ^ n → wX2_bestSet_11 Q E X (m + 1) (nI nd) (nI sp) (nI (bF w s z n nd sp i)) (nI (i + 1)) σ := by
    intro m
    induction m with
    | zero =>
      intro i hi
      have e : (1 : Int32) <<< (rd σ 0 0 1 &&& 31) = nI (2 ^ n) := by rw [B.2.1.1, shl1 n (by omega)]
      refine ⟨fun _ => ?_, fun r => absurd ?_ r⟩
      · rw [show i = 2 ^ n - 1 by omega]
        exact h
      · show (1 : Int32) <<< (rd σ 0 0 1 &&& 31) ≤ nI (i + 1)
        rw [e]
        exact nI_le (by omega) (by omega)
    | succ m ih =>
      intro i hi
      have hh := ih (i + 1) (by omega)
      have e : (1 : Int32) <<< (rd σ 0 0 1 &&& 31) = nI (2 ^ n) := by rw [B.2.1.1, shl1 n (by omega)]
      have hbl := bF_le w s z n nd sp i
      obtain ⟨x1, x2, x3⟩ := T (i + 1) (by omega)
      obtain ⟨y1, y2, y3⟩ := bc_b B (i + 1)
      have ee : bF w s z n nd sp (i + 1) = if okB (sB w (i + 1) n) (sB (pP w s) (i + 1) n) nd sp && (decide (bF w s z n nd sp i = 0) || btB w z n (i + 1) (bF w s z n nd sp i)) then i + 1 else bF w s z n nd sp i := rfl
      have hmul : sp * sB w (i + 1) n ≤ 60 * 500 := Nat.mul_le_mul hsp y1
      have no : okB (sB w (i + 1) n) (sB (pP w s) (i + 1) n) nd sp = false → ∀ v5 : Int32, v5 = nI (i + 1) + 1 → wX2_bestSet_11 Q E X (m + 1) (nI nd) (nI sp) (nI (bF w s z n nd sp i)) v5 σ := by
        intro c v5 h5
        rw [nI_1] at h5
        rw [ee, c] at hh
        rw [h5]
        exact hh
      refine ⟨fun r => ?_, fun _ => ?_⟩
      · have r' : nI (2 ^ n) ≤ nI (i + 1) := e ▸ r
        exact absurd r' (nI_ge (by omega) (by omega))
      · have vx : vp_in (nI (i + 1)) (iaLen 0) := vp_in_nI (show i + 1 < 1024 by omega) (by decide)
        rw [nI_clamp (by omega), x1, x2, pk_mul, nI_ltI (by omega) (by omega), nI_ltI (by omega) (by omega)]
        refine ⟨vx, fun c => no (by simp [okB]; omega), fun c => ⟨vx, vx, fun c2 => no (by simp [okB]; omega), fun c2 => ?_⟩⟩
        have ok : okB (sB w (i + 1) n) (sB (pP w s) (i + 1) n) nd sp = true := by
          simp [okB]
          omega
        rw [ok, Bool.true_and] at ee
        refine ⟨fun c3 v5 h5 => ?_, fun c3 => ?_⟩
        · rw [nI_1] at h5
          have z0 : bF w s z n nd sp i = 0 := by
            rw [show (0 : Int32) = nI 0 from rfl, nI_eq (by omega) (by omega)] at c3
            exact c3
          rw [ee, if_pos (by simp [z0])] at hh
          rw [h5]
          exact hh
        · have z0 : ¬ bF w s z n nd sp i = 0 := by
            rw [show (0 : Int32) = nI 0 from rfl, nI_eq (by omega) (by omega)] at c3
            exact c3
          refine w_betterC B T (by omega) (by omega) (fun q => ⟨fun u => absurd u (by decide), fun _ v5 h5 => ?_⟩) (fun q => ⟨fun _ v5 h5 => ?_, fun u => absurd rfl u⟩)
          · rw [nI_1] at h5
            rw [ee, if_pos (by simp [q])] at hh
            rw [h5]
            exact hh
          · rw [nI_1] at h5
            rw [ee, if_neg (by simp [q, z0])] at hh
            rw [h5]
            exact hh
  exact ⟨2 ^ n - 1 + 1, key (2 ^ n - 1) 0 (by omega)⟩
theorem w_bestSet {n nd sp : Nat} {x1 x2 : Int32} {w s z : Nat → Nat} {σ : Mem} {Q : Int32 → Mem → Prop} {E : String → Mem → Prop} (hx1 : x1 = nI nd) (hx2 : x2 = nI sp) (B : BCx σ n w s z) (hnd : nd ≤ 500) (hsp : sp ≤ 60) (h : ∀ τ : Mem, FB σ τ → Tab τ n n w s z → Q (nI (bF w s z n nd sp (2 ^ n - 1))) τ) : wX2_bestSet x1 x2 σ Q E := by
  subst hx1
  subst hx2
  exact w_addSets B fun τ t1 t2 => w_best11 (B.on t1) t2 hnd hsp (h τ t1 t2)
/-- the same in the reference's row -/
def BRx (a : Nat → Int32) (n : Nat) (w s z : Nat → Nat) : Prop := n ≤ 10 ∧ a 11 = nI n ∧ (∀ q : Nat, q < n → a (15 + 4 * q) = nI (w q) ∧ a (16 + 4 * q) = nI (s q) ∧ a (17 + 4 * q) = nI (z q)) ∧ ∀ q : Nat, q < n → (1 ≤ w q ∧ w q ≤ 50) ∧ (10 ≤ s q ∧ s q ≤ 60) ∧ 1 ≤ z q ∧ z q ≤ 20
theorem br_b {a : Nat → Int32} {n : Nat} {w s z : Nat → Nat} (B : BRx a n w s z) (x : Nat) : sB w x n ≤ 500 ∧ sB (pP w s) x n ≤ 30000 ∧ sB (pP w z) x n ≤ 10000 := by
  have hb := B.2.2.2
  exact ⟨sB_b (M := 50) (Nat.le_refl n) B.1 fun q hq => (hb q hq).1.2, sB_b (M := 3000) (Nat.le_refl n) B.1 fun q hq => Nat.mul_le_mul (hb q hq).1.2 (hb q hq).2.1.2, sB_b (M := 1000) (Nat.le_refl n) B.1 fun q hq => Nat.mul_le_mul (hb q hq).1.2 (hb q hq).2.2.2⟩
