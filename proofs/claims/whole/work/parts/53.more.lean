/-! MORE POSITIONS, AND SEARCHES FOR AN ID -/
theorem no_ix {i n : Nat} {a : Int32} (hi : i < n) (hn : n < 2 ^ 31) (ha : a = nI i) : ¬ (a < 0 ∨ nI n ≤ a) := by
  subst ha
  rintro (q | q)
  · exact nI_pos (by omega) q
  · exact nI_ge hi hn q
theorem pC_19 {j : Nat} {σ : Mem} (I : Inv j σ) (a1 : Int32) : wC_19 a1 σ (Inv (j + 1)) := by
  obtain ⟨t, nB, nO, nP, -, F, S⟩ := I.st
  have hB := F.1.2.1
  unfold wC_19 wL_orderAt wX12_orderAt wX13_orderAt
  refine w_has (k := 5) (n := nO) (by omega) (S.2.2.1 0 (by decide)) (fun i hi ha => ?_) (fun hb => ?_)
  · refine ⟨fun _ => ?_, fun q => absurd q (by decide)⟩
    refine w_get (k := 5) (S.2.2.1 0 (by decide)) hi hB ha ?_
    refine w_isIn (n := nO) (by omega) F.1.2.2.2.2.1 (fun i' hi' ha' => ?_) (fun hb => absurd hb (no_ix hi (by omega) ha))
    refine ⟨fun _ => w_thr0 ⟨fun _ => w_ofOrder (i := i) (d := 0) (by omega) (by decide) ha rfl ⟨rfl, fun _ => ?_, I.to (kpThr σ _ 0)⟩, fun q => absurd rfl q⟩, fun q => absurd q (by decide)⟩
    exact congrArg Int32.toInt64 (S.2.2.2.2.2.1 i hi).1
  · refine ⟨fun q => absurd rfl q, fun _ => ⟨rfl, ?_⟩⟩
    refine w_isIn (n := nO) (by omega) F.1.2.2.2.2.1 (fun i' hi' ha' => absurd hb (no_ix hi' (by omega) ha')) (fun _ => ?_)
    exact ⟨fun q => absurd rfl q, fun _ => w_thr1 ⟨fun q => absurd q (by decide), fun _ => ⟨rfl, fun q => absurd q (by decide), I.to (kp7 σ 1)⟩⟩⟩
theorem pC_29 {j : Nat} {σ : Mem} (I : Inv j σ) (a1 : Int32) : wC_29 a1 σ (Inv (j + 1)) := by
  obtain ⟨t, nB, nO, nP, -, F, S⟩ := I.st
  have hB := F.1.2.2.1
  unfold wC_29 wL_pieceLength wX12_pieceLength wX12_testPiece wX13_pieceLength wX13_isPiece
  refine w_has (k := 9) (n := nP) (by omega) S.2.2.2.1 (fun i hi ha => ?_) (fun hb => ?_)
  · refine ⟨fun _ => ?_, fun q => absurd q (by decide)⟩
    refine w_get (k := 9) S.2.2.2.1 hi hB ha ?_
    refine w_isIn (n := nP) (by omega) F.1.2.2.2.2.2 (fun i' hi' ha' => ?_) (fun hb => absurd hb (no_ix hi (by omega) ha))
    refine ⟨Or.inr rfl, fun _ => w_thr0 ⟨fun _ => ?_, fun q => absurd rfl q⟩, fun q => absurd q (by decide)⟩
    rw [ha, (piece_ix (show i < 12 by omega)).2]
    exact ⟨(piece_ix (show i < 12 by omega)).1, rfl, fun _ => congrArg Int32.toInt64 (S.2.2.2.2.2.2 i hi), I.to (kpThr σ _ 0)⟩
  · refine ⟨fun q => absurd rfl q, fun _ => ⟨rfl, ?_⟩⟩
    refine w_isIn (n := nP) (by omega) F.1.2.2.2.2.2 (fun i' hi' ha' => absurd hb (no_ix hi' (by omega) ha')) (fun _ => ?_)
    exact ⟨Or.inl rfl, fun q => absurd rfl q, fun _ => w_thr1 ⟨fun q => absurd q (by decide), fun _ => ⟨rfl, fun q => absurd q (by decide), I.to (kp7 σ 1)⟩⟩⟩
theorem pC_32 {j : Nat} {σ : Mem} (I : Inv j σ) (a1 : Int32) : wC_32 a1 σ (Inv (j + 1)) := by
  obtain ⟨t, nB, nO, nP, -, F, S⟩ := I.st
  have hB := F.1.2.2.1
  unfold wC_32 wL_worthOf wX12_worthOf wX12_testPiece wX10_worthAt wX13_worthOf wX13_isPiece wX13_worth
  refine w_has (k := 9) (n := nP) (by omega) S.2.2.2.1 (fun i hi ha => ?_) (fun hb => ?_)
  · refine ⟨fun _ => ?_, fun q => absurd q (by decide)⟩
    refine w_get (k := 9) S.2.2.2.1 hi hB ha ?_
    have e := S.2.2.2.2.2.2 i hi
    have go : ∀ (x : Int64) (r : Int32), (rd σ 10 8 (78 + i) < 10 → x = (2 * rd σ 10 8 (78 + i)).toInt64) → (¬ rd σ 10 8 (78 + i) < 10 → x = (5 * rd σ 10 8 (78 + i)).toInt64) →
        wX13_isIn a1 0 (rd σ 10 8 13 - 1) (wrL σ x) (fun (r1 : Int32) (s2 : Mem) => (r1 = 0 ∨ r1 = 1) ∧ ((¬ r1 = 0 → wX13_isThrown 0 1 s2 (fun (r3 : Int32) (s4 : Mem) => ((r3 = 0 → wX13_worth a1 s4 (fun (r5 : Int32) (s6 : Mem) => wX13_thrown s6 (fun (t : Int32) (s2 : Mem) => t = 0 ∧ ((0 : Int32) = 0 → rdL s2 = r5.toInt64) ∧ Inv (j + 1) s2) (fun _ _ => False)) (fun _ _ => False)) ∧ (¬ r3 = 0 → wX13_thrown s4 (fun (t : Int32) (s2 : Mem) => t = 0 ∧ ((0 : Int32) = 0 → rdL s2 = (0 : Int32).toInt64) ∧ Inv (j + 1) s2) (fun _ _ => False)))) (fun _ _ => False)) ∧ (r1 = 0 → wX13_isThrown 1 1 s2 (fun (r7 : Int32) (s8 : Mem) => ((r7 = 0 → wX13_worth a1 s8 (fun (r9 : Int32) (s10 : Mem) => wX13_thrown s10 (fun (t : Int32) (s2 : Mem) => t = 0 ∧ ((0 : Int32) = 0 → rdL s2 = r9.toInt64) ∧ Inv (j + 1) s2) (fun _ _ => False)) (fun _ _ => False)) ∧ (¬ r7 = 0 → wX13_thrown s8 (fun (t : Int32) (s2 : Mem) => t = 0 ∧ ((0 : Int32) = 0 → rdL s2 = (0 : Int32).toInt64) ∧ Inv (j + 1) s2) (fun _ _ => False)))) (fun _ _ => False)))) (fun _ _ => False) := by
      intro x r hx1 hx2
      refine w_isIn (n := nP) (by omega) F.1.2.2.2.2.2 (fun i' hi' ha' => ?_) (fun hb => absurd hb (no_ix hi (by omega) ha))
      refine ⟨Or.inr rfl, fun _ => w_thr0 ⟨fun _ => ?_, fun q => absurd rfl q⟩, fun q => absurd q (by decide)⟩
      unfold wX13_worth
      rw [ha, (piece_ix (show i < 12 by omega)).2]
      refine ⟨(piece_ix (show i < 12 by omega)).1, fun v hv => ?_⟩
      subst hv
      exact ⟨fun q => ⟨rfl, fun _ => hx1 q, I.to (kpThr σ _ 0)⟩, fun q => ⟨rfl, fun _ => hx2 q, I.to (kpThr σ _ 0)⟩⟩
    refine ⟨fun q => go _ 0 (fun _ => ?_) (fun q2 => absurd (e ▸ q) q2), fun q => go _ 0 (fun q2 => absurd (show rd σ 1 9 i < 10 from e ▸ q2) q) (fun _ => ?_)⟩
    · show ((rd σ 1 9 i) * 2).toInt64 = _
      rw [show rd σ 1 9 i = rd σ 10 8 (78 + i) from e, Int32.mul_comm]
    · show ((rd σ 1 9 i) * 5).toInt64 = _
      rw [show rd σ 1 9 i = rd σ 10 8 (78 + i) from e, Int32.mul_comm]
  · refine ⟨fun q => absurd rfl q, fun _ => ⟨rfl, ?_⟩⟩
    refine w_isIn (n := nP) (by omega) F.1.2.2.2.2.2 (fun i' hi' ha' => absurd hb (no_ix hi' (by omega) ha')) (fun _ => ?_)
    exact ⟨Or.inl rfl, fun q => absurd rfl q, fun _ => w_thr1 ⟨fun q => absurd q (by decide), fun _ => ⟨rfl, fun q => absurd q (by decide), I.to (kp7 σ 1)⟩⟩⟩
theorem pC_53 {j : Nat} {σ : Mem} (I : Inv j σ) : wC_53 σ (Inv (j + 1)) := by
  have h : rd σ 14 0 11 = rd σ 15 0 8 ∧ (rd σ 15 0 8 = -1 ∨ 0 ≤ rd σ 15 0 8) := by
    obtain ⟨t, nT, nL, nC, nx, -, -, -, -, -, h1, h2, -⟩ := I
    exact h1
  unfold wC_53 wL_errorPosition wX12_errorPosition wX13_errorPosition
  refine ⟨fun q => ?_, fun q => ⟨rfl, ?_⟩⟩
  · have hp : 0 ≤ rd σ 15 0 8 := h.2.resolve_left (fun z => q (h.1.trans z))
    exact ⟨fun _ => w_thr0 ⟨fun _ => ⟨rfl, fun _ => congrArg Int32.toInt64 h.1, I.to (kpThr σ _ 0)⟩, fun z => absurd rfl z⟩, fun z => absurd hp z⟩
  · have hp : ¬ 0 ≤ rd σ 15 0 8 := by
      rw [← h.1, q]
      decide
    exact ⟨fun z => absurd z hp, fun _ => w_thr1 ⟨fun z => absurd z (by decide), fun _ => ⟨rfl, fun z => absurd z (by decide), I.to (kp7 σ 1)⟩⟩⟩
theorem pC_54 {j : Nat} {σ : Mem} (I : Inv j σ) : wC_54 σ (Inv (j + 1)) := by
  have h : rd σ 14 0 12 = rd σ 15 0 9 ∧ (rd σ 15 0 9 = -1 ∨ 0 ≤ rd σ 15 0 9) := by
    obtain ⟨t, nT, nL, nC, nx, -, -, -, -, -, h1, h2, -⟩ := I
    exact h2
  unfold wC_54 wL_failedCommand wX12_failedCommand wX13_failedCommand
  refine ⟨fun q => ?_, fun q => ⟨rfl, ?_⟩⟩
  · have hp : 0 ≤ rd σ 15 0 9 := h.2.resolve_left (fun z => q (h.1.trans z))
    exact ⟨fun _ => w_thr0 ⟨fun _ => ⟨rfl, fun _ => congrArg Int32.toInt64 h.1, I.to (kpThr σ _ 0)⟩, fun z => absurd rfl z⟩, fun z => absurd hp z⟩
  · have hp : ¬ 0 ≤ rd σ 15 0 9 := by
      rw [← h.1, q]
      decide
    exact ⟨fun z => absurd z hp, fun _ => w_thr1 ⟨fun z => absurd z (by decide), fun _ => ⟨rfl, fun z => absurd z (by decide), I.to (kp7 σ 1)⟩⟩⟩
