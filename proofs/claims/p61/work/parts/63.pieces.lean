/-! canSpin -/
/-- how many pieces come of l kilometres of twist w -/
def pcs (l w : Nat) : Nat := (l + (3 + w) - 1) / (3 + w)
theorem pcs_le {l w : Nat} (h : l ≤ 40) : pcs l w ≤ 40 := by
  unfold pcs
  exact Nat.div_le_of_le_mul (by omega)
theorem w_piecesAt {k n i l w : Nat} {a1 : Int32} {σ : Mem} {Q : Int32 → Mem → Prop} {E : String → Mem → Prop} (h6 : rd σ 0 (10 * k + 6) 1 = nI n) (h7 : rd σ 0 (10 * k + 7) 1 = nI n) (hi : i < n) (hc6 : n ≤ rowCap (10 * k + 6)) (hc7 : n ≤ rowCap (10 * k + 7)) (ha : a1 = nI i) (hl : rd σ 1 (10 * k + 6) i = nI l) (hw : rd σ 1 (10 * k + 7) i = nI w) (hl2 : l ≤ 40) (hw2 : w ≤ 9) (h : Q (nI (pcs l w)) σ) : wX5_piecesAt k a1 σ Q E := by
  unfold wX5_piecesAt wX5_breakAt
  refine w_get (k := 10 * k + 7) h7 hi hc7 ha ?_
  rw [hw, show (3 : Int32) = nI 3 from rfl, nI_add]
  refine ⟨fun _ => ?_, fun q => absurd (show (1 : Int32) ≤ nI (3 + w) from nI_le (a := 1) (by omega) (by omega)) q⟩
  refine w_get (k := 10 * k + 6) h6 hi hc6 ha ⟨nI_ne0 (by omega) (by omega), ?_⟩
  rw [hl, nI_add, show l + (3 + w) = (l + (2 + w)) + 1 by omega, nI_pred, pk_div (by omega) (by omega) (by omega)]
  unfold pcs at h
  rw [show l + (3 + w) - 1 = l + (2 + w) by omega] at h
  exact h
theorem w_refSpin {nB nO nP i l w r : Nat} {a : Nat → Int32} {a1 : Int32} {σ : Mem} {Q : Nat → Mem → Prop} {E : String → Mem → Prop} (S : Same σ 0 nB nO nP a) (hO : nO ≤ 8) (hP : nP ≤ 12) (hi : i < nO) (ha : a1 = nI i) (hl : a (55 + 3 * i) = nI l) (hw : a (56 + 3 * i) = nI w) (hr : a 1 = nI r) (hl2 : l ≤ 40) (hw2 : w ≤ 9) (hr2 : r ≤ 999)
    (h3 : ¬ l ≤ r → Q 3 σ) (h2 : l ≤ r → ¬ nP + pcs l w ≤ 12 → Q 2 σ) (h0 : l ≤ r → nP + pcs l w ≤ 12 → Q 0 σ) : wX10_refusalOfSpinning 0 a1 σ Q E := by
  have hp := pcs_le (w := w) hl2
  have e := S.2.2.2.2.2.1 i hi
  unfold wX10_refusalOfSpinning
  refine w_has (n := nO) (by omega) (S.2.2.1 0 (by decide)) (fun i' _ _ => ?_) (fun hb => absurd hb (no_ix hi (by omega) ha))
  refine ⟨fun _ => w_get (n := nO) (S.2.2.1 1 (by decide)) hi hO ha ?_, fun q => absurd q (by decide)⟩
  rw [show rd σ 1 (10 * 0 + 6) i = nI l from e.2.1.trans hl, show rd σ 4 0 3 = nI r from S.1.2.1.trans hr, nI_leI (by omega) (by omega)]
  refine ⟨fun q => ?_, h3⟩
  unfold wX7_size
  refine w_piecesAt (n := nO) (i := i) (l := l) (w := w) (S.2.2.1 1 (by decide)) (S.2.2.1 2 (by decide)) hi hO hO ha (e.2.1.trans hl) (e.2.2.1.trans hw) hl2 hw2 ?_
  rw [show rd σ 0 (10 * 0 + 9) 1 = nI nP from S.2.2.2.1, nI_add, show (12 : Int32) = nI 12 from rfl, nI_leI (by omega) (by omega)]
  exact ⟨h0 q, h2 q⟩
