/-! WHAT IS TOLD OF A BALE OR AN ORDER -/
theorem nI_nm1 {i : Nat} (h : i < 2 ^ 31) : ¬ nI i = -1 := by
  intro e
  have e2 := congrArg Int32.toInt e
  rw [nI_toInt h] at e2
  have e3 : (-1 : Int32).toInt = -1 := by decide
  rw [e3] at e2
  omega
theorem pC_11 {j : Nat} {σ : Mem} (I : Inv j σ) (a1 : Int32) : wC_11 a1 σ (Inv (j + 1)) := by
  obtain ⟨t, nB, nO, nP, -, F, S⟩ := I.st
  have hB := F.1.1
  unfold wC_11 wL_weight wX12_weight wX12_positionOfBale wX13_weight wX13_tellsBale
  rcases fst_or (fun q => rd σ 10 8 (14 + 4 * q)) a1 nB with ⟨i, hi, e1, e2⟩ | hno
  · refine w_find_at (k := 0) (n := nB) (f := (fun q => rd σ 10 8 (14 + 4 * q))) (S.2.1 0 (by decide)) hB (fun q hq => (S.2.2.2.2.1 q hq).1) hi e1 e2 ?_
    refine ⟨fun _ => ?_, fun q => absurd q (nI_nm1 (by omega))⟩
    refine w_get (k := 1) (n := nB) (i := i) (S.2.1 1 (by decide)) hi hB rfl ?_
    refine w_bale_at (n := nB) F.1.2.2.2.1 hB hi e1 e2 ?_
    refine ⟨fun _ => w_thr0 ⟨fun _ => w_bale_at (n := nB) F.1.2.2.2.1 hB hi e1 e2 ?_, fun q => absurd rfl q⟩, fun q => absurd (nI_pos' (by omega)) q⟩
    exact w_ofBale (i := i) (d := 1) (by omega) (by decide) rfl rfl ⟨rfl, fun _ => congrArg Int32.toInt64 ((S.2.2.2.2.1 i hi).2.1.trans (congrArg (rd σ 10 8) (show 15 + 4 * i = 14 + 4 * i + 1 by omega))), I.to (kpThr σ _ 0)⟩
  · refine w_find_no (k := 0) (n := nB) (f := (fun q => rd σ 10 8 (14 + 4 * q))) (S.2.1 0 (by decide)) hB (fun q hq => (S.2.2.2.2.1 q hq).1) hno ?_
    refine ⟨fun q => absurd rfl q, fun _ => ⟨rfl, ?_⟩⟩
    refine w_bale_no (n := nB) F.1.2.2.2.1 hB hno ?_
    exact ⟨fun q => absurd q (by decide), fun _ => w_thr1 ⟨fun q => absurd q (by decide), fun _ => ⟨rfl, fun q => absurd q (by decide), I.to (kp7 σ 1)⟩⟩⟩
theorem pC_12 {j : Nat} {σ : Mem} (I : Inv j σ) (a1 : Int32) : wC_12 a1 σ (Inv (j + 1)) := by
  obtain ⟨t, nB, nO, nP, -, F, S⟩ := I.st
  have hB := F.1.1
  unfold wC_12 wL_staple wX12_staple wX12_positionOfBale wX13_staple wX13_tellsBale
  rcases fst_or (fun q => rd σ 10 8 (14 + 4 * q)) a1 nB with ⟨i, hi, e1, e2⟩ | hno
  · refine w_find_at (k := 0) (n := nB) (f := (fun q => rd σ 10 8 (14 + 4 * q))) (S.2.1 0 (by decide)) hB (fun q hq => (S.2.2.2.2.1 q hq).1) hi e1 e2 ?_
    refine ⟨fun _ => ?_, fun q => absurd q (nI_nm1 (by omega))⟩
    refine w_get (k := 2) (n := nB) (i := i) (S.2.1 2 (by decide)) hi hB rfl ?_
    refine w_bale_at (n := nB) F.1.2.2.2.1 hB hi e1 e2 ?_
    refine ⟨fun _ => w_thr0 ⟨fun _ => w_bale_at (n := nB) F.1.2.2.2.1 hB hi e1 e2 ?_, fun q => absurd rfl q⟩, fun q => absurd (nI_pos' (by omega)) q⟩
    exact w_ofBale (i := i) (d := 2) (by omega) (by decide) rfl rfl ⟨rfl, fun _ => congrArg Int32.toInt64 ((S.2.2.2.2.1 i hi).2.2.1.trans (congrArg (rd σ 10 8) (show 16 + 4 * i = 14 + 4 * i + 2 by omega))), I.to (kpThr σ _ 0)⟩
  · refine w_find_no (k := 0) (n := nB) (f := (fun q => rd σ 10 8 (14 + 4 * q))) (S.2.1 0 (by decide)) hB (fun q hq => (S.2.2.2.2.1 q hq).1) hno ?_
    refine ⟨fun q => absurd rfl q, fun _ => ⟨rfl, ?_⟩⟩
    refine w_bale_no (n := nB) F.1.2.2.2.1 hB hno ?_
    exact ⟨fun q => absurd q (by decide), fun _ => w_thr1 ⟨fun q => absurd q (by decide), fun _ => ⟨rfl, fun q => absurd q (by decide), I.to (kp7 σ 1)⟩⟩⟩
theorem pC_13 {j : Nat} {σ : Mem} (I : Inv j σ) (a1 : Int32) : wC_13 a1 σ (Inv (j + 1)) := by
  obtain ⟨t, nB, nO, nP, -, F, S⟩ := I.st
  have hB := F.1.1
  unfold wC_13 wL_price wX12_price wX12_positionOfBale wX13_price wX13_tellsBale
  rcases fst_or (fun q => rd σ 10 8 (14 + 4 * q)) a1 nB with ⟨i, hi, e1, e2⟩ | hno
  · refine w_find_at (k := 0) (n := nB) (f := (fun q => rd σ 10 8 (14 + 4 * q))) (S.2.1 0 (by decide)) hB (fun q hq => (S.2.2.2.2.1 q hq).1) hi e1 e2 ?_
    refine ⟨fun _ => ?_, fun q => absurd q (nI_nm1 (by omega))⟩
    refine w_get (k := 3) (n := nB) (i := i) (S.2.1 3 (by decide)) hi hB rfl ?_
    refine w_bale_at (n := nB) F.1.2.2.2.1 hB hi e1 e2 ?_
    refine ⟨fun _ => w_thr0 ⟨fun _ => w_bale_at (n := nB) F.1.2.2.2.1 hB hi e1 e2 ?_, fun q => absurd rfl q⟩, fun q => absurd (nI_pos' (by omega)) q⟩
    exact w_ofBale (i := i) (d := 3) (by omega) (by decide) rfl rfl ⟨rfl, fun _ => congrArg Int32.toInt64 ((S.2.2.2.2.1 i hi).2.2.2.1.trans (congrArg (rd σ 10 8) (show 17 + 4 * i = 14 + 4 * i + 3 by omega))), I.to (kpThr σ _ 0)⟩
  · refine w_find_no (k := 0) (n := nB) (f := (fun q => rd σ 10 8 (14 + 4 * q))) (S.2.1 0 (by decide)) hB (fun q hq => (S.2.2.2.2.1 q hq).1) hno ?_
    refine ⟨fun q => absurd rfl q, fun _ => ⟨rfl, ?_⟩⟩
    refine w_bale_no (n := nB) F.1.2.2.2.1 hB hno ?_
    exact ⟨fun q => absurd q (by decide), fun _ => w_thr1 ⟨fun q => absurd q (by decide), fun _ => ⟨rfl, fun q => absurd q (by decide), I.to (kp7 σ 1)⟩⟩⟩
theorem pC_20 {j : Nat} {σ : Mem} (I : Inv j σ) (a1 : Int32) : wC_20 a1 σ (Inv (j + 1)) := by
  obtain ⟨t, nB, nO, nP, -, F, S⟩ := I.st
  have hB := F.1.2.1
  unfold wC_20 wL_lengthOf wX12_lengthOf wX12_positionOfOrder wX13_lengthOf 
  rcases fst_or (fun q => rd σ 10 8 (54 + 3 * q)) a1 nO with ⟨i, hi, e1, e2⟩ | hno
  · refine w_find_at (k := 5) (n := nO) (f := (fun q => rd σ 10 8 (54 + 3 * q))) (S.2.2.1 0 (by decide)) hB (fun q hq => (S.2.2.2.2.2.1 q hq).1) hi e1 e2 ?_
    refine ⟨fun _ => ?_, fun q => absurd q (nI_nm1 (by omega))⟩
    refine w_get (k := 6) (n := nO) (i := i) (S.2.2.1 1 (by decide)) hi hB rfl ?_
    refine w_order_at (n := nO) F.1.2.2.2.2.1 hB hi e1 e2 ?_
    refine ⟨fun _ => w_thr0 ⟨fun _ => w_order_at (n := nO) F.1.2.2.2.2.1 hB hi e1 e2 ?_, fun q => absurd rfl q⟩, fun q => absurd (nI_pos' (by omega)) q⟩
    exact w_ofOrder (i := i) (d := 1) (by omega) (by decide) rfl rfl ⟨rfl, fun _ => congrArg Int32.toInt64 ((S.2.2.2.2.2.1 i hi).2.1.trans (congrArg (rd σ 10 8) (show 55 + 3 * i = 54 + 3 * i + 1 by omega))), I.to (kpThr σ _ 0)⟩
  · refine w_find_no (k := 5) (n := nO) (f := (fun q => rd σ 10 8 (54 + 3 * q))) (S.2.2.1 0 (by decide)) hB (fun q hq => (S.2.2.2.2.2.1 q hq).1) hno ?_
    refine ⟨fun q => absurd rfl q, fun _ => ⟨rfl, ?_⟩⟩
    refine w_order_no (n := nO) F.1.2.2.2.2.1 hB hno ?_
    exact ⟨fun q => absurd q (by decide), fun _ => w_thr1 ⟨fun q => absurd q (by decide), fun _ => ⟨rfl, fun q => absurd q (by decide), I.to (kp7 σ 1)⟩⟩⟩
theorem pC_21 {j : Nat} {σ : Mem} (I : Inv j σ) (a1 : Int32) : wC_21 a1 σ (Inv (j + 1)) := by
  obtain ⟨t, nB, nO, nP, -, F, S⟩ := I.st
  have hB := F.1.2.1
  unfold wC_21 wL_twistOf wX12_twistOf wX12_positionOfOrder wX13_twistOf 
  rcases fst_or (fun q => rd σ 10 8 (54 + 3 * q)) a1 nO with ⟨i, hi, e1, e2⟩ | hno
  · refine w_find_at (k := 5) (n := nO) (f := (fun q => rd σ 10 8 (54 + 3 * q))) (S.2.2.1 0 (by decide)) hB (fun q hq => (S.2.2.2.2.2.1 q hq).1) hi e1 e2 ?_
    refine ⟨fun _ => ?_, fun q => absurd q (nI_nm1 (by omega))⟩
    refine w_get (k := 7) (n := nO) (i := i) (S.2.2.1 2 (by decide)) hi hB rfl ?_
    refine w_order_at (n := nO) F.1.2.2.2.2.1 hB hi e1 e2 ?_
    refine ⟨fun _ => w_thr0 ⟨fun _ => w_order_at (n := nO) F.1.2.2.2.2.1 hB hi e1 e2 ?_, fun q => absurd rfl q⟩, fun q => absurd (nI_pos' (by omega)) q⟩
    exact w_ofOrder (i := i) (d := 2) (by omega) (by decide) rfl rfl ⟨rfl, fun _ => congrArg Int32.toInt64 ((S.2.2.2.2.2.1 i hi).2.2.1.trans (congrArg (rd σ 10 8) (show 56 + 3 * i = 54 + 3 * i + 2 by omega))), I.to (kpThr σ _ 0)⟩
  · refine w_find_no (k := 5) (n := nO) (f := (fun q => rd σ 10 8 (54 + 3 * q))) (S.2.2.1 0 (by decide)) hB (fun q hq => (S.2.2.2.2.2.1 q hq).1) hno ?_
    refine ⟨fun q => absurd rfl q, fun _ => ⟨rfl, ?_⟩⟩
    refine w_order_no (n := nO) F.1.2.2.2.2.1 hB hno ?_
    exact ⟨fun q => absurd q (by decide), fun _ => w_thr1 ⟨fun q => absurd q (by decide), fun _ => ⟨rfl, fun q => absurd q (by decide), I.to (kp7 σ 1)⟩⟩⟩
theorem pC_22 {j : Nat} {σ : Mem} (I : Inv j σ) (a1 : Int32) : wC_22 a1 σ (Inv (j + 1)) := by
  obtain ⟨t, nB, nO, nP, -, F, S⟩ := I.st
  have hB := F.1.2.1
  unfold wC_22 wL_minutesOf wX12_minutesOf wX12_positionOfOrder wX13_minutesOf wX13_time
  rcases fst_or (fun q => rd σ 10 8 (54 + 3 * q)) a1 nO with ⟨i, hi, e1, e2⟩ | hno
  · refine w_find_at (k := 5) (n := nO) (f := (fun q => rd σ 10 8 (54 + 3 * q))) (S.2.2.1 0 (by decide)) hB (fun q hq => (S.2.2.2.2.2.1 q hq).1) hi e1 e2 ?_
    refine ⟨fun _ => ?_, fun q => absurd q (nI_nm1 (by omega))⟩
    refine w_get (k := 8) (n := nO) (i := i) (S.2.2.1 3 (by decide)) hi hB rfl ?_
    refine w_order_at (n := nO) F.1.2.2.2.2.1 hB hi e1 e2 ?_
    refine ⟨fun _ => w_thr0 ⟨fun _ => w_order_at (n := nO) F.1.2.2.2.2.1 hB hi e1 e2 ?_, fun q => absurd rfl q⟩, fun q => absurd (nI_pos' (by omega)) q⟩
    exact w_ofOrder (i := i) (d := 1) (by omega) (by decide) rfl rfl (w_ofOrder (i := i) (d := 2) (by omega) (by decide) rfl rfl ⟨rfl, fun _ => congrArg Int32.toInt64 ((S.2.2.2.2.2.1 i hi).2.2.2.trans (show rd σ 10 8 (55 + 3 * i) * rd σ 10 8 (56 + 3 * i) = rd σ 10 8 (54 + 3 * i + 1) * rd σ 10 8 (54 + 3 * i + 2) by rw [show 54 + 3 * i + 1 = 55 + 3 * i by omega, show 54 + 3 * i + 2 = 56 + 3 * i by omega])), I.to (kpThr σ _ 0)⟩)
  · refine w_find_no (k := 5) (n := nO) (f := (fun q => rd σ 10 8 (54 + 3 * q))) (S.2.2.1 0 (by decide)) hB (fun q hq => (S.2.2.2.2.2.1 q hq).1) hno ?_
    refine ⟨fun q => absurd rfl q, fun _ => ⟨rfl, ?_⟩⟩
    refine w_order_no (n := nO) F.1.2.2.2.2.1 hB hno ?_
    exact ⟨fun q => absurd q (by decide), fun _ => w_thr1 ⟨fun q => absurd q (by decide), fun _ => ⟨rfl, fun q => absurd q (by decide), I.to (kp7 σ 1)⟩⟩⟩
