/-! canSpin -/
/-- how many pieces come of l kilometres of twist w -/
def pcs (l w : Nat) : Nat := (l + (3 + w) - 1) / (3 + w)
theorem pcs_le {l w : Nat} (h : l ≤ 40) : pcs l w ≤ 40 := by
  unfold pcs
  exact Nat.div_le_of_le_mul (by omega)
theorem w_piecesAt {k n i l w : Nat} {a1 : Int32} {σ : Mem} {Q : Int32 → Mem → Prop} {E : String → Mem → Prop} (h6 : rd σ 0 (10 * k + 6) 1 = nI n) (h7 : rd σ 0 (10 * k + 7) 1 = nI n) (hi : i < n) (hc6 : n ≤ rowCap (10 * k + 6)) (hc7 : n ≤ rowCap (10 * k + 7)) (ha : a1 = nI i) (hl : rd σ 1 (10 * k + 6) i = nI l) (hw : rd σ 1 (10 * k + 7) i = nI w) (hl2 : l ≤ 40) (hw2 : w ≤ 9) (h : Q (nI (pcs l w)) σ) : wX5_piecesAt k a1 σ Q E := by
  unfold wX5_piecesAt wX5_breakAt
  refine w_get (k := 10 * k + 7) h7 hi hc7 ha ?_
  rw [hw, show (3 : Int32) = nI 3 from rfl, nI_add]
  refine ⟨fun _ => ?_, fun q => absurd (show (1 : Int32) ≤ nI (3 + w) from nI_le (a := 1) (by omega) (by omega)) q⟩
  refine w_get (k := 10 * k + 6) h6 hi hc6 ha ⟨nI_ne0 (by omega) (by omega), ?_⟩
  rw [hl, nI_add, show l + (3 + w) = (l + (2 + w)) + 1 by omega, nI_pred, pk_div (by omega) (by omega) (by omega)]
  unfold pcs at h
  rw [show l + (3 + w) - 1 = l + (2 + w) by omega] at h
  exact h
theorem w_pieces {i l w : Nat} {a1 : Int32} {σ : Mem} {Q : Int32 → Mem → Prop} {E : String → Mem → Prop} (hi : i < 8) (ha : a1 = nI i) (hl : rd σ 10 8 (54 + 3 * i + 1) = nI l) (hw : rd σ 10 8 (54 + 3 * i + 2) = nI w) (hl2 : l ≤ 40) (hw2 : w ≤ 9) (h : Q (nI (pcs l w)) σ) : wX13_pieces a1 σ Q E := by
  unfold wX13_pieces
  refine w_ofOrder (i := i) (d := 2) hi (by decide) ha rfl (fun v hv => ?_)
  rw [hw, show (3 : Int32) = nI 3 from rfl, nI_add] at hv
  subst hv
  refine w_ofOrder (i := i) (d := 1) hi (by decide) ha rfl ⟨nI_ne0 (by omega) (by omega), ?_⟩
  rw [hl, nI_add, show l + (3 + w) = (l + (2 + w)) + 1 by omega, nI_pred, pk_div (by omega) (by omega) (by omega)]
  unfold pcs at h
  rw [show l + (3 + w) - 1 = l + (2 + w) by omega] at h
  exact h
theorem w_refSpin {nB nO nP i l w r : Nat} {a : Nat → Int32} {a1 : Int32} {σ : Mem} {Q : Nat → Mem → Prop} {E : String → Mem → Prop} (S : Same σ 0 nB nO nP a) (hO : nO ≤ 8) (hP : nP ≤ 12) (hi : i < nO) (ha : a1 = nI i) (hl : a (55 + 3 * i) = nI l) (hw : a (56 + 3 * i) = nI w) (hr : a 1 = nI r) (hl2 : l ≤ 40) (hw2 : w ≤ 9) (hr2 : r ≤ 999)
    (h3 : ¬ l ≤ r → Q 3 σ) (h2 : l ≤ r → ¬ nP + pcs l w ≤ 12 → Q 2 σ) (h0 : l ≤ r → nP + pcs l w ≤ 12 → Q 0 σ) : wX10_refusalOfSpinning 0 a1 σ Q E := by
  have hp := pcs_le (w := w) hl2
  have e := S.2.2.2.2.2.1 i hi
  unfold wX10_refusalOfSpinning
  refine w_has (n := nO) (by omega) (S.2.2.1 0 (by decide)) (fun i' _ _ => ?_) (fun hb => absurd hb (no_ix hi (by omega) ha))
  refine ⟨fun _ => w_get (n := nO) (S.2.2.1 1 (by decide)) hi hO ha ?_, fun q => absurd q (by decide)⟩
  rw [show rd σ 1 (10 * 0 + 6) i = nI l from e.2.1.trans hl, show rd σ 4 0 3 = nI r from S.1.2.1.trans hr, nI_leI (by omega) (by omega)]
  refine ⟨fun q => ?_, h3⟩
  unfold wX7_size
  refine w_piecesAt (n := nO) (i := i) (l := l) (w := w) (S.2.2.1 1 (by decide)) (S.2.2.1 2 (by decide)) hi hO hO ha (e.2.1.trans hl) (e.2.2.1.trans hw) hl2 hw2 ?_
  rw [show rd σ 0 (10 * 0 + 9) 1 = nI nP from S.2.2.2.1, nI_add, show (12 : Int32) = nI 12 from rfl, nI_leI (by omega) (by omega)]
  exact ⟨h0 q, h2 q⟩
theorem w_mayBe {nP i l w r : Nat} {a1 : Int32} {σ : Mem} {Q : Int32 → Mem → Prop} {E : String → Mem → Prop} (hi : i < 8) (hP : nP ≤ 12) (ha : a1 = nI i) (hl : rd σ 10 8 (54 + 3 * i + 1) = nI l) (hw : rd σ 10 8 (54 + 3 * i + 2) = nI w) (hr : rd σ 10 8 1 = nI r) (hn : rd σ 10 8 13 = nI nP) (hl2 : l ≤ 40) (hw2 : w ≤ 9) (hr2 : r ≤ 999)
    (h3 : ¬ l ≤ r → Q 0 σ) (h2 : l ≤ r → ¬ nP + pcs l w ≤ 12 → Q 0 σ) (h0 : l ≤ r → nP + pcs l w ≤ 12 → Q 1 σ) : wX13_mayBeSpun a1 σ Q E := by
  have hp := pcs_le (w := w) hl2
  unfold wX13_mayBeSpun
  refine w_ofOrder (i := i) (d := 1) hi (by decide) ha rfl ?_
  rw [hl, hr, nI_ltI (by omega) (by omega)]
  refine ⟨fun q => h3 (by omega), fun q => w_pieces hi ha hl hw hl2 hw2 ?_⟩
  rw [hn, nI_add, show (12 : Int32) = nI 12 from rfl, nI_ltI (by omega) (by omega)]
  exact ⟨fun z => h2 (by omega) (by omega), fun z => h0 (by omega) (by omega)⟩
theorem pC_23 {j : Nat} {σ : Mem} (I : Inv j σ) (a1 : Int32) : wC_23 a1 σ (Inv (j + 1)) := by
  obtain ⟨t, nB, nO, nP, -, F, S⟩ := I.st
  have hB := F.1.2.1
  have hP := F.1.2.2.1
  obtain ⟨r, hr2, hr⟩ := F.2.2.1
  unfold wC_23 wL_canSpin wX12_canSpin wX12_positionOfOrder wX13_canSpin
  rcases fst_or (fun q => rd σ 10 8 (54 + 3 * q)) a1 nO with ⟨i, hi, e1, e2⟩ | hno
  · obtain ⟨-, ⟨l, -, hl2, hl⟩, w, -, hw2, hw⟩ := F.2.2.2.2.2.2.1 i hi
    refine w_find_at (k := 5) (n := nO) (f := fun q => rd σ 10 8 (54 + 3 * q)) (S.2.2.1 0 (by decide)) hB (fun q hq => (S.2.2.2.2.2.1 q hq).1) hi e1 e2 ?_
    refine ⟨fun _ => ?_, fun q => absurd q (nI_nm1 (by omega))⟩
    have hl' : rd σ 10 8 (54 + 3 * i + 1) = nI l := by
      rw [show 54 + 3 * i + 1 = 55 + 3 * i by omega]
      exact hl
    have hw' : rd σ 10 8 (54 + 3 * i + 2) = nI w := by
      rw [show 54 + 3 * i + 2 = 56 + 3 * i by omega]
      exact hw
    refine w_refSpin S hB hP hi rfl hl hw hr hl2 hw2 hr2 (fun c => ?_) (fun c c2 => ?_) (fun c c2 => ?_)
    · refine ⟨fun _ => ⟨fun _ => ?_, fun q => absurd rfl q⟩, fun q => absurd q (by decide)⟩
      refine w_order_at (n := nO) F.1.2.2.2.2.1 hB hi e1 e2 ?_
      refine ⟨fun _ => w_thr0 ⟨fun q => absurd rfl q, fun _ => w_order_at (n := nO) F.1.2.2.2.2.1 hB hi e1 e2 ?_⟩, fun q => absurd (nI_pos' (by omega)) q⟩
      refine w_mayBe (nP := nP) (i := i) (by omega) hP rfl hl' hw' hr F.1.2.2.2.2.2 hl2 hw2 hr2 (fun _ => ?_) (fun d _ => absurd d c) (fun d _ => absurd d c)
      exact ⟨fun _ => ⟨rfl, fun _ => ⟨fun _ => rfl, fun q => absurd rfl q⟩, I.to (kpThr σ _ 0)⟩, fun q => absurd rfl q⟩
    · refine ⟨fun _ => ⟨fun _ => ?_, fun q => absurd rfl q⟩, fun q => absurd q (by decide)⟩
      refine w_order_at (n := nO) F.1.2.2.2.2.1 hB hi e1 e2 ?_
      refine ⟨fun _ => w_thr0 ⟨fun q => absurd rfl q, fun _ => w_order_at (n := nO) F.1.2.2.2.2.1 hB hi e1 e2 ?_⟩, fun q => absurd (nI_pos' (by omega)) q⟩
      refine w_mayBe (nP := nP) (i := i) (by omega) hP rfl hl' hw' hr F.1.2.2.2.2.2 hl2 hw2 hr2 (fun d => absurd c d) (fun _ _ => ?_) (fun _ d => absurd d c2)
      exact ⟨fun _ => ⟨rfl, fun _ => ⟨fun _ => rfl, fun q => absurd rfl q⟩, I.to (kpThr σ _ 0)⟩, fun q => absurd rfl q⟩
    · refine ⟨fun q => absurd rfl q, fun _ => ⟨fun q => absurd q (by decide), fun _ => ?_⟩⟩
      refine w_order_at (n := nO) F.1.2.2.2.2.1 hB hi e1 e2 ?_
      refine ⟨fun _ => w_thr0 ⟨fun q => absurd rfl q, fun _ => w_order_at (n := nO) F.1.2.2.2.2.1 hB hi e1 e2 ?_⟩, fun q => absurd (nI_pos' (by omega)) q⟩
      refine w_mayBe (nP := nP) (i := i) (by omega) hP rfl hl' hw' hr F.1.2.2.2.2.2 hl2 hw2 hr2 (fun d => absurd c d) (fun _ d => absurd c2 d) (fun _ _ => ?_)
      exact ⟨fun q => absurd q (by decide), fun _ => ⟨rfl, fun _ => ⟨fun q => absurd q (by decide), fun _ => rfl⟩, I.to (kpThr σ _ 0)⟩⟩
  · refine w_find_no (k := 5) (n := nO) (f := fun q => rd σ 10 8 (54 + 3 * q)) (S.2.2.1 0 (by decide)) hB (fun q hq => (S.2.2.2.2.2.1 q hq).1) hno ?_
    refine ⟨fun q => absurd rfl q, fun _ => ⟨rfl, ?_⟩⟩
    refine w_order_no (n := nO) F.1.2.2.2.2.1 hB hno ?_
    exact ⟨fun q => absurd q (by decide), fun _ => w_thr1 ⟨fun _ => ⟨rfl, fun q => absurd q (by decide), I.to (kp7 σ 1)⟩, fun q => absurd q (by decide)⟩⟩
