/-! WHAT THE LAW ASKS: BALES, ORDERS, PIECES -/
theorem Asc.ne {n t : Nat} {f : Nat → Int32} {x : Int32} (h : Asc n f x t) (ht : t ≤ 512) {q q' : Nat} (hq : q < q') (hq' : q' < n) : ¬ f q = f q' := by
  obtain ⟨d, m, h1, h2, h3, h4⟩ := h
  have g := h3 q (by omega)
  have g' := h3 q' hq'
  have := h4 q q' hq hq'
  rw [g.1, g'.1, nI_eq (by omega) (by omega)]
  omega
theorem q_baleAt {nB nO nP k : Nat} {a : Nat → Int32} {σ : Mem} {Q : Int32 → Mem → Prop} {E : String → Mem → Prop} (S : Same σ 0 nB nO nP a) (hB : nB ≤ 10) (hk : k < nB) (h : Q (a (14 + 4 * k)) σ) : wX12_baleAt (nI k) σ Q E := by
  refine w_has (n := nB) (by omega) (S.rB 0 (by decide)).1 (fun i hi e => ⟨fun _ => ?_, fun q => absurd q (by decide)⟩) (fun hb => absurd hb (no_ix hk (by omega) rfl))
  refine w_get (k := 0) (n := nB) (i := k) (S.rB 0 (by decide)).1 hk hB rfl ?_
  rw [show rd σ 1 0 k = a (14 + 4 * k) from (S.rB 0 (by decide)).2 k hk]
  exact h
theorem q_orderAt {nB nO nP k : Nat} {a : Nat → Int32} {σ : Mem} {Q : Int32 → Mem → Prop} {E : String → Mem → Prop} (S : Same σ 0 nB nO nP a) (hO : nO ≤ 8) (hk : k < nO) (h : Q (a (54 + 3 * k)) σ) : wX12_orderAt (nI k) σ Q E := by
  refine w_has (n := nO) (by omega) (S.rO 0 (by decide)).1 (fun i hi e => ⟨fun _ => ?_, fun q => absurd q (by decide)⟩) (fun hb => absurd hb (no_ix hk (by omega) rfl))
  refine w_get (k := 5) (n := nO) (i := k) (S.rO 0 (by decide)).1 hk hO rfl ?_
  rw [show rd σ 1 5 k = a (54 + 3 * k) from (S.rO 0 (by decide)).2 k hk]
  exact h
theorem q_posB {t nB nO nP k : Nat} {a : Nat → Int32} {σ : Mem} {Q : Int32 → Mem → Prop} {E : String → Mem → Prop} (ht : t ≤ 512) (S : Same σ 0 nB nO nP a) (G : Srt t nB nO a) (hB : nB ≤ 10) (hk : k < nB) (h : Q (nI k) σ) : wX12_positionOfBale (a (14 + 4 * k)) σ Q E :=
  w_find_at (k := 0) (n := nB) (f := fun q => a (14 + 4 * q)) (S.rB 0 (by decide)).1 hB (S.rB 0 (by decide)).2 hk rfl (fun q hq => G.2.1.ne ht hq hk) ⟨fun _ => h, fun q => absurd q (nI_nm1 (by omega))⟩
theorem q_posO {t nB nO nP k : Nat} {a : Nat → Int32} {σ : Mem} {Q : Int32 → Mem → Prop} {E : String → Mem → Prop} (ht : t ≤ 512) (S : Same σ 0 nB nO nP a) (G : Srt t nB nO a) (hO : nO ≤ 8) (hk : k < nO) (h : Q (nI k) σ) : wX12_positionOfOrder (a (54 + 3 * k)) σ Q E :=
  w_find_at (k := 5) (n := nO) (f := fun q => a (54 + 3 * q)) (S.rO 0 (by decide)).1 hO (S.rO 0 (by decide)).2 hk rfl (fun q hq => G.2.2.ne ht hq hk) ⟨fun _ => h, fun q => absurd q (nI_nm1 (by omega))⟩
theorem q_rowB {t nB nO nP k i : Nat} {a : Nat → Int32} {σ : Mem} {Q : Int32 → Mem → Prop} {E : String → Mem → Prop} (hi : i < 5) (S : Same σ 0 nB nO nP a) (hB : nB ≤ 10) (hk : k < nB) (h : Q (gB a i k) σ) : wX7_get (0 + i) (nI k) σ Q E := by
  refine w_get (k := 0 + i) (n := nB) (i := k) (S.rB i hi).1 hk ?_ rfl ?_
  · rw [show (0 + i : Nat) = 10 * 0 + i by omega, rowCap_st (by decide) (by omega), if_pos hi]
    exact hB
  · rw [(S.rB i hi).2 k hk]
    exact h
theorem q_rowO {t nB nO nP k i : Nat} {a : Nat → Int32} {σ : Mem} {Q : Int32 → Mem → Prop} {E : String → Mem → Prop} (hi : i < 4) (S : Same σ 0 nB nO nP a) (hO : nO ≤ 8) (hk : k < nO) (h : Q (gO a i k) σ) : wX7_get (5 + i) (nI k) σ Q E := by
  refine w_get (k := 5 + i) (n := nO) (i := k) (S.rO i hi).1 hk ?_ rfl ?_
  · rw [show (5 + i : Nat) = 10 * 0 + (5 + i) by omega, rowCap_st (by decide) (by omega), if_neg (by omega), if_pos (by omega)]
    exact hO
  · rw [(S.rO i hi).2 k hk]
    exact h
section QS
variable {t nB nO nP k : Nat} {a : Nat → Int32} {σ : Mem} {Q : Int32 → Mem → Prop} {E : String → Mem → Prop}
theorem q_weight (ht : t ≤ 512) (S : Same σ 0 nB nO nP a) (G : Srt t nB nO a) (hB : nB ≤ 10) (hk : k < nB) (h : Q (a (15 + 4 * k)) σ) : wX12_weight (a (14 + 4 * k)) σ Q E := q_posB ht S G hB hk (q_rowB (t := t) (i := 1) (by decide) S hB hk h)
theorem q_staple (ht : t ≤ 512) (S : Same σ 0 nB nO nP a) (G : Srt t nB nO a) (hB : nB ≤ 10) (hk : k < nB) (h : Q (a (16 + 4 * k)) σ) : wX12_staple (a (14 + 4 * k)) σ Q E := q_posB ht S G hB hk (q_rowB (t := t) (i := 2) (by decide) S hB hk h)
theorem q_price (ht : t ≤ 512) (S : Same σ 0 nB nO nP a) (G : Srt t nB nO a) (hB : nB ≤ 10) (hk : k < nB) (h : Q (a (17 + 4 * k)) σ) : wX12_price (a (14 + 4 * k)) σ Q E := q_posB ht S G hB hk (q_rowB (t := t) (i := 3) (by decide) S hB hk h)
theorem q_lengthOf (ht : t ≤ 512) (S : Same σ 0 nB nO nP a) (G : Srt t nB nO a) (hO : nO ≤ 8) (hk : k < nO) (h : Q (a (55 + 3 * k)) σ) : wX12_lengthOf (a (54 + 3 * k)) σ Q E := q_posO ht S G hO hk (q_rowO (t := t) (i := 1) (by decide) S hO hk h)
theorem q_twistOf (ht : t ≤ 512) (S : Same σ 0 nB nO nP a) (G : Srt t nB nO a) (hO : nO ≤ 8) (hk : k < nO) (h : Q (a (56 + 3 * k)) σ) : wX12_twistOf (a (54 + 3 * k)) σ Q E := q_posO ht S G hO hk (q_rowO (t := t) (i := 2) (by decide) S hO hk h)
theorem q_minutesOf (ht : t ≤ 512) (S : Same σ 0 nB nO nP a) (G : Srt t nB nO a) (hO : nO ≤ 8) (hk : k < nO) (h : Q (a (55 + 3 * k) * a (56 + 3 * k)) σ) : wX12_minutesOf (a (54 + 3 * k)) σ Q E := q_posO ht S G hO hk (q_rowO (t := t) (i := 3) (by decide) S hO hk h)
/-- 1 if order k can be spun -/
def csp (nP : Nat) (a : Nat → Int32) (k : Nat) : Int32 := if (a (55 + 3 * k)).toNatClampNeg ≤ (a 1).toNatClampNeg ∧ nP + pcs (a (55 + 3 * k)).toNatClampNeg (a (56 + 3 * k)).toNatClampNeg ≤ 12 then 1 else 0
theorem q_canSpin (ht : t ≤ 512) (S : Same σ 0 nB nO nP a) (F : Fits t nB nO nP a) (G : Srt t nB nO a) (hk : k < nO) (h : Q (csp nP a k) σ) : wX12_canSpin (a (54 + 3 * k)) σ Q E := by
  obtain ⟨r, hr2, hr⟩ := F.2.2.1
  obtain ⟨-, ⟨l, hl1, hl2, hl⟩, w, hw1, hw2, hw⟩ := F.2.2.2.2.2.2.1 k hk
  have e : csp nP a k = if l ≤ r ∧ nP + pcs l w ≤ 12 then 1 else 0 := by
    unfold csp
    rw [hr, hl, hw, nI_clamp (by omega), nI_clamp (by omega), nI_clamp (by omega)]
  rw [e] at h
  refine q_posO ht S G F.1.2.1 hk ?_
  refine w_refSpin S F.1.2.1 F.1.2.2.1 hk rfl hl hw hr hl2 hw2 hr2 (fun c => ⟨fun _ => ?_, fun q => absurd q (by decide)⟩) (fun _ c => ⟨fun _ => ?_, fun q => absurd q (by decide)⟩) (fun c1 c2 => ⟨fun q => absurd rfl q, fun _ => ?_⟩)
  · rw [if_neg (fun z => c z.1)] at h
    exact h
  · rw [if_neg (fun z => c z.2)] at h
    exact h
  · rw [if_pos ⟨c1, c2⟩] at h
    exact h
theorem q_testP {Q : Mem → Prop} (S : Same σ 0 nB nO nP a) (hP : nP ≤ 12) (hk : k < nP) (h : Q σ) : wX12_testPiece (nI k) σ Q E :=
  w_has (k := 9) (n := nP) (by omega) S.2.2.2.1 (fun i hi e => ⟨fun _ => h, fun q => absurd q (by decide)⟩) (fun hb => absurd hb (no_ix hk (by omega) rfl))
theorem q_pieceLength (S : Same σ 0 nB nO nP a) (hP : nP ≤ 12) (hk : k < nP) (h : Q (a (78 + k)) σ) : wX12_pieceLength (nI k) σ Q E := by
  refine q_testP S hP hk (w_get (k := 9) (n := nP) (i := k) S.2.2.2.1 hk hP rfl ?_)
  rw [show rd σ 1 9 k = a (78 + k) from S.2.2.2.2.2.2 k hk]
  exact h
end QS
