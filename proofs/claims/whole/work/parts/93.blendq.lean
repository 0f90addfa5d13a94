/-! WHAT IS ASKED OF BLENDS -/
/-- need and staple, in their bounds or not -/
theorem ask_or (x1 x2 : Int32) : (x1 < 1 ∨ 500 < x1) ∨ (¬ (x1 < 1 ∨ 500 < x1) ∧ (x2 < 10 ∨ 60 < x2)) ∨ ∃ nd sp : Nat, (1 ≤ nd ∧ nd ≤ 500 ∧ x1 = nI nd) ∧ 10 ≤ sp ∧ sp ≤ 60 ∧ x2 = nI sp := by
  rcases btw_or (x := x1) (lo := 1) (hi := 500) (l := 1) (h := 500) rfl rfl (by decide) (by decide) with hb | ⟨u, h1, h2, hx⟩
  · exact Or.inl hb
  · rcases btw_or (x := x2) (lo := 10) (hi := 60) (l := 10) (h := 60) rfl rfl (by decide) (by decide) with hb | ⟨w, h3, h4, hy⟩
    · exact Or.inr (Or.inl ⟨by rw [hx]; exact in_nb rfl rfl h1 h2 (by decide), hb⟩)
    · exact Or.inr (Or.inr ⟨u, w, ⟨h1, h2, hx⟩, h3, h4, hy⟩)
theorem w_can0 {x1 x2 : Int32} {σ : Mem} {Q : Int32 → Mem → Prop} {E : String → Mem → Prop} (hb : (x1 < 1 ∨ 500 < x1) ∨ (¬ (x1 < 1 ∨ 500 < x1) ∧ (x2 < 10 ∨ 60 < x2))) (h : Q 0 σ) : wX12_canBeBlend x1 x2 σ Q E := by
  rcases hb with hb | ⟨h1, hb⟩
  · exact w_btw0 hb ⟨fun _ => h, fun q => absurd rfl q⟩
  · exact w_btw1 h1 ⟨fun q => absurd q (by decide), fun _ => w_btw0 hb ⟨fun _ => h, fun q => absurd rfl q⟩⟩
theorem w_can1 {x1 x2 : Int32} {nd sp : Nat} {σ : Mem} {Q : Int32 → Mem → Prop} {E : String → Mem → Prop} (h1 : 1 ≤ nd ∧ nd ≤ 500 ∧ x1 = nI nd) (h2 : 10 ≤ sp ∧ sp ≤ 60 ∧ x2 = nI sp) (h : Q 1 σ) : wX12_canBeBlend x1 x2 σ Q E := by
  obtain ⟨a1, a2, rfl⟩ := h1
  obtain ⟨b1, b2, rfl⟩ := h2
  exact w_btw1 (in_nb rfl rfl a1 a2 (by decide)) ⟨fun q => absurd q (by decide), fun _ => w_btw1 (in_nb rfl rfl b1 b2 (by decide)) ⟨fun q => absurd q (by decide), fun _ => h⟩⟩
theorem w_asked0 {x1 x2 : Int32} {σ : Mem} {Q : Int32 → Mem → Prop} {E : String → Mem → Prop} (hb : (x1 < 1 ∨ 500 < x1) ∨ (¬ (x1 < 1 ∨ 500 < x1) ∧ (x2 < 10 ∨ 60 < x2))) (h : Q 0 σ) : wX13_isBlendAsked x1 x2 σ Q E := by
  rcases hb with hb | ⟨h1, hb⟩
  · exact w_in0 hb ⟨fun _ => h, fun q => absurd rfl q⟩
  · exact w_in1 h1 ⟨fun q => absurd q (by decide), fun _ => w_in0 hb ⟨fun _ => h, fun q => absurd rfl q⟩⟩
theorem w_asked1 {x1 x2 : Int32} {nd sp : Nat} {σ : Mem} {Q : Int32 → Mem → Prop} {E : String → Mem → Prop} (h1 : 1 ≤ nd ∧ nd ≤ 500 ∧ x1 = nI nd) (h2 : 10 ≤ sp ∧ sp ≤ 60 ∧ x2 = nI sp) (h : Q 1 σ) : wX13_isBlendAsked x1 x2 σ Q E := by
  obtain ⟨a1, a2, rfl⟩ := h1
  obtain ⟨b1, b2, rfl⟩ := h2
  exact w_in1 (in_nb rfl rfl a1 a2 (by decide)) ⟨fun q => absurd q (by decide), fun _ => w_in1 (in_nb rfl rfl b1 b2 (by decide)) ⟨fun q => absurd q (by decide), fun _ => h⟩⟩
/-- bales of class and reference, by the invariant -/
theorem bal_cx {t nB nO nP : Nat} {a : Nat → Int32} {σ : Mem} (F : Fits t nB nO nP a) (S : Same σ 0 nB nO nP a) (Z : Zer σ) : ∃ w s z : Nat → Nat, BCx σ nB w s z ∧ BRx a nB w s z := by
  obtain ⟨w, s, z, hb⟩ := bal_wsp F
  refine ⟨w, s, z, ⟨F.1.1, ⟨S.2.1 0 (by decide), S.2.1 1 (by decide), S.2.1 2 (by decide), S.2.1 4 (by decide)⟩, fun q hq => ?_, fun q hq => (hb q hq).2.2.2, Z.1 0 (by decide), Z.1 1 (by decide), Z.1 2 (by decide)⟩, F.1.1, F.1.2.2.2.1, fun q hq => ⟨(hb q hq).1, (hb q hq).2.1, (hb q hq).2.2.1⟩, fun q hq => (hb q hq).2.2.2⟩
  obtain ⟨-, e1, e2, -, e3⟩ := S.2.2.2.2.1 q hq
  obtain ⟨h1, h2, h3, -⟩ := hb q hq
  refine ⟨e1.trans h1, e2.trans h2, e3.trans ?_⟩
  rw [h1, h3, pk_mul]
theorem Inv.z {j : Nat} {σ : Mem} (I : Inv j σ) : Zer σ := by
  obtain ⟨t, nT, nL, nC, nx, h1, h2, h3, h4, h5, h6, h7, h8, h9, hZ⟩ := I
  exact hZ
theorem FB.kp {σ τ : Mem} (h : FB σ τ) : Kp σ τ := by
  refine ⟨fun f k s e => h.1 f k s ?_, by rw [h.2]⟩
  rintro ⟨rfl, q1, q2⟩
  simp [ess] at e
  omega
theorem BRx.on {a b : Nat → Int32} {n : Nat} {w s z : Nat → Nat} (h : b = a) (B : BRx a n w s z) : BRx b n w s z := by
  rw [h]
  exact B
theorem pC_15 {j : Nat} {σ : Mem} (I : Inv j σ) (a1 a2 : Int32) : wC_15 a1 a2 σ (Inv (j + 1)) := by
  have hZ := I.z
  obtain ⟨t, nB, nO, nP, htj, F, S⟩ := I.st
  obtain ⟨w, s, z, BC, BR⟩ := bal_cx F S hZ
  have hB2 := (p2_le' BC.1).2
  have hB1 := (p2_le' BC.1).1
  unfold wC_15 wL_blendValue wX12_blendValue wX12_testBlend wX13_blendValue
  rcases ask_or a1 a2 with hb | hb | ⟨nd, sp, h1, h2⟩
  · exact w_can0 (Or.inl hb) ⟨fun q => absurd rfl q, fun _ => Or.inl ⟨rfl, w_asked0 (Or.inl hb) ⟨fun q => absurd rfl q, fun _ => w_thr1 ⟨fun q => absurd q (by decide), fun _ => ⟨rfl, fun q => absurd q (by decide), I.to (kp7 σ 1)⟩⟩⟩⟩⟩
  · exact w_can0 (Or.inr hb) ⟨fun q => absurd rfl q, fun _ => Or.inl ⟨rfl, w_asked0 (Or.inr hb) ⟨fun q => absurd rfl q, fun _ => w_thr1 ⟨fun q => absurd q (by decide), fun _ => ⟨rfl, fun q => absurd q (by decide), I.to (kp7 σ 1)⟩⟩⟩⟩⟩
  · refine w_can1 h1 h2 ⟨fun _ => ?_, fun q => absurd q (by decide)⟩
    refine w_bestSet h1.2.2 h2.2.2 BC h1.2.1 h2.2.1 (fun τ t1 t2 => ?_)
    have hbl := bF_le w s z nB nd sp (2 ^ nB - 1)
    have e8 : rd τ 10 8 = rd σ 10 8 := funext fun s => t1.1 10 8 s (by omega)
    have I' := I.kept t1.kp
    obtain ⟨-, -, cv⟩ := t2 (bF w s z nB nd sp (2 ^ nB - 1)) (by omega)
    have bv := (bc_b BC (bF w s z nB nd sp (2 ^ nB - 1))).2.2
    have e0 : nI (bF w s z nB nd sp (2 ^ nB - 1)) = 0 ↔ bF w s z nB nd sp (2 ^ nB - 1) = 0 := by rw [show (0 : Int32) = nI 0 from rfl, nI_eq (by omega) (by omega)]
    by_cases c : bF w s z nB nd sp (2 ^ nB - 1) = 0
    · refine ⟨fun q => absurd (e0.mpr c) q, fun _ => ⟨fun q => absurd rfl q, fun _ => Or.inr ⟨rfl, ?_⟩⟩⟩
      refine w_asked1 h1 h2 ⟨fun _ => w_thr0 ⟨fun _ => ?_, fun q => absurd rfl q⟩, fun q => absurd q (by decide)⟩
      refine w_bestR h1.2.2 h2.2.2 (BR.on ((row_7 τ 0).trans e8)) h1.2.1 h2.2.1 ⟨fun q => absurd (e0.mpr c) q, fun _ => ?_⟩
      exact w_thr1 ⟨fun q => absurd q (by decide), fun _ => ⟨rfl, fun q => absurd q (by decide), I'.to ((kp7 τ 0).tr (kp7 _ 2))⟩⟩
    · refine ⟨fun _ => ⟨vp_in_nI (show bF w s z nB nd sp (2 ^ nB - 1) < 1024 by omega) (by decide), ?_⟩, fun q => absurd (e0.mp q) c⟩
      rw [nI_clamp (by omega), cv]
      refine ⟨fun _ => ?_, fun q => absurd q (nI_nm1 (by omega))⟩
      refine w_asked1 h1 h2 ⟨fun _ => w_thr0 ⟨fun _ => ?_, fun q => absurd rfl q⟩, fun q => absurd q (by decide)⟩
      refine w_bestR h1.2.2 h2.2.2 (BR.on ((row_7 _ 0).trans e8)) h1.2.1 h2.2.1 ⟨fun _ => ?_, fun q => absurd (e0.mp q) c⟩
      refine w_thr0 ⟨fun _ => ?_, fun q => absurd rfl q⟩
      refine w_sumR (BR.on ((row_7 _ 0).trans ((row_7 _ 0).trans e8))) (by omega) (Or.inr (Or.inl ⟨rfl, rfl⟩)) ⟨rfl, fun _ => rfl, I'.to ?_⟩
      exact (kpThr τ _ 0).tr (kp7 _ 0)
theorem pC_17 {j : Nat} {σ : Mem} (I : Inv j σ) (a1 a2 a3 : Int32) : wC_17 a1 a2 a3 σ (Inv (j + 1)) := by
  have hZ := I.z
  obtain ⟨t, nB, nO, nP, htj, F, S⟩ := I.st
  obtain ⟨w, s, z, BC, BR⟩ := bal_cx F S hZ
  have hB := F.1.1
  have hB2 := (p2_le' BC.1).2
  have hB1 := (p2_le' BC.1).1
  unfold wC_17 wL_isInBlend wX12_isInBlend wX12_positionOfBale wX12_testBlend wX13_isInBlend
  rcases fst_or (fun q => rd σ 10 8 (14 + 4 * q)) a1 nB with ⟨i, hi, e1, e2⟩ | hno
  rotate_left
  · refine w_find_no (k := 0) (n := nB) (f := fun q => rd σ 10 8 (14 + 4 * q)) (S.2.1 0 (by decide)) hB (fun q hq => (S.2.2.2.2.1 q hq).1) hno ?_
    refine ⟨fun q => absurd rfl q, fun _ => Or.inl ⟨rfl, ?_⟩⟩
    refine w_bale_no (n := nB) F.1.2.2.2.1 hB hno ⟨fun q => absurd q (by decide), fun _ => ?_⟩
    unfold wX13_isInBlend_14
    exact w_thr1 ⟨fun _ => ⟨rfl, fun q => absurd q (by decide), I.to (kp7 σ 1)⟩, fun q => absurd q (by decide)⟩
  refine w_find_at (k := 0) (n := nB) (f := fun q => rd σ 10 8 (14 + 4 * q)) (S.2.1 0 (by decide)) hB (fun q hq => (S.2.2.2.2.1 q hq).1) hi e1 e2 ?_
  refine ⟨fun _ => ?_, fun q => absurd q (nI_nm1 (by omega))⟩
  have bad : (a2 < 1 ∨ 500 < a2) ∨ (¬ (a2 < 1 ∨ 500 < a2) ∧ (a3 < 10 ∨ 60 < a3)) → wX13_bale a1 σ (fun r1 s2 => (0 ≤ r1 → wX13_isInBlend_14 (fun bb s1 => wX13_thrown s1 (fun t s2 => t = 2 ∧ ((2 : Int32) = 0 → ((bb = 0 → rdL s2 = 0) ∧ (¬ bb = 0 → rdL s2 = 1))) ∧ Inv (j + 1) s2) (fun _ _ => False)) (fun _ _ => False) a1 a2 a3 0 s2) ∧ (¬ 0 ≤ r1 → wX13_isInBlend_14 (fun bb s1 => wX13_thrown s1 (fun t s2 => t = 2 ∧ ((2 : Int32) = 0 → ((bb = 0 → rdL s2 = 0) ∧ (¬ bb = 0 → rdL s2 = 1))) ∧ Inv (j + 1) s2) (fun _ _ => False)) (fun _ _ => False) a1 a2 a3 1 s2)) (fun _ _ => False) := by
    intro hb
    refine w_bale_at (n := nB) F.1.2.2.2.1 hB hi e1 e2 ⟨fun _ => ?_, fun q => absurd (nI_pos' (by omega)) q⟩
    unfold wX13_isInBlend_14
    refine w_thr0 ⟨fun q => absurd rfl q, fun _ => w_asked0 hb ⟨fun q => absurd rfl q, fun _ => ?_⟩⟩
    unfold wX13_isInBlend_35
    exact w_thr1 ⟨fun q => absurd q (by decide), fun _ => ⟨rfl, fun q => absurd q (by decide), I.to ((kp7 σ 0).tr (kp7 _ 2))⟩⟩
  rcases ask_or a2 a3 with hb | hb | ⟨nd, sp, h1, h2⟩
  · exact w_can0 (Or.inl hb) ⟨fun q => absurd rfl q, fun _ => Or.inr (Or.inl ⟨rfl, bad (Or.inl hb)⟩)⟩
  · exact w_can0 (Or.inr hb) ⟨fun q => absurd rfl q, fun _ => Or.inr (Or.inl ⟨rfl, bad (Or.inr hb)⟩)⟩
  refine w_can1 h1 h2 ⟨fun _ => ?_, fun q => absurd q (by decide)⟩
  refine w_bestSet h1.2.2 h2.2.2 BC h1.2.1 h2.2.1 (fun τ t1 t2 => ?_)
  have hbl := bF_le w s z nB nd sp (2 ^ nB - 1)
  have e8 : rd τ 10 8 = rd σ 10 8 := funext fun s => t1.1 10 8 s (by omega)
  have I' := I.kept t1.kp
  have e0 : nI (bF w s z nB nd sp (2 ^ nB - 1)) = 0 ↔ bF w s z nB nd sp (2 ^ nB - 1) = 0 := by rw [show (0 : Int32) = nI 0 from rfl, nI_eq (by omega) (by omega)]
  have kb : ∀ (y : Mem), rd y 10 8 = rd σ 10 8 → ∀ (Q : Int32 → Mem → Prop) (E : String → Mem → Prop), Q (nI i) y → wX13_bale a1 y Q E := fun y hy Q E hq => by
    have h11 : rd y 10 8 11 = nI nB := by rw [hy]; exact F.1.2.2.2.1
    exact w_bale_at (n := nB) h11 hB hi (by rw [hy]; exact e1) (fun q hq => by rw [hy]; exact e2 q hq) hq
  by_cases c : bF w s z nB nd sp (2 ^ nB - 1) = 0
  · refine ⟨fun q => absurd (e0.mpr c) q, fun _ => Or.inr (Or.inr ⟨rfl, ?_⟩)⟩
    refine kb τ e8 _ _ ⟨fun _ => ?_, fun q => absurd (nI_pos' (by omega)) q⟩
    unfold wX13_isInBlend_14
    refine w_thr0 ⟨fun q => absurd rfl q, fun _ => w_asked1 h1 h2 ⟨fun _ => ?_, fun q => absurd q (by decide)⟩⟩
    unfold wX13_isInBlend_35
    refine w_thr0 ⟨fun _ => ?_, fun q => absurd rfl q⟩
    refine w_bestR h1.2.2 h2.2.2 (BR.on ((row_7 _ 0).trans ((row_7 _ 0).trans e8))) h1.2.1 h2.2.1 ⟨fun q => absurd (e0.mpr c) q, fun _ => ?_⟩
    exact w_thr1 ⟨fun _ => ⟨rfl, fun q => absurd q (by decide), I'.to ((kp7 τ 0).tr ((kp7 _ 0).tr (kp7 _ 3)))⟩, fun q => absurd q (by decide)⟩
  · have ref : ∀ (v : Int64), (¬ (bF w s z nB nd sp (2 ^ nB - 1)).testBit i = true → v = 0) → ((bF w s z nB nd sp (2 ^ nB - 1)).testBit i = true → v = 1) → wX13_bale a1 (wrL τ v) (fun r1 s2 => (0 ≤ r1 → wX13_isInBlend_14 (fun bb s1 => wX13_thrown s1 (fun t s2 => t = 0 ∧ ((0 : Int32) = 0 → ((bb = 0 → rdL s2 = 0) ∧ (¬ bb = 0 → rdL s2 = 1))) ∧ Inv (j + 1) s2) (fun _ _ => False)) (fun _ _ => False) a1 a2 a3 0 s2) ∧ (¬ 0 ≤ r1 → wX13_isInBlend_14 (fun bb s1 => wX13_thrown s1 (fun t s2 => t = 0 ∧ ((0 : Int32) = 0 → ((bb = 0 → rdL s2 = 0) ∧ (¬ bb = 0 → rdL s2 = 1))) ∧ Inv (j + 1) s2) (fun _ _ => False)) (fun _ _ => False) a1 a2 a3 1 s2)) (fun _ _ => False) := by
      intro v v0 v1
      refine kb (wrL τ v) e8 _ _ ⟨fun _ => ?_, fun q => absurd (nI_pos' (by omega)) q⟩
      unfold wX13_isInBlend_14
      refine w_thr0 ⟨fun q => absurd rfl q, fun _ => w_asked1 h1 h2 ⟨fun _ => ?_, fun q => absurd q (by decide)⟩⟩
      unfold wX13_isInBlend_35
      refine w_thr0 ⟨fun _ => ?_, fun q => absurd rfl q⟩
      refine w_bestR h1.2.2 h2.2.2 (BR.on ((row_7 _ 0).trans ((row_7 _ 0).trans e8))) h1.2.1 h2.2.1 ⟨fun _ => ?_, fun q => absurd (e0.mp q) c⟩
      refine w_thr0 ⟨fun q => absurd rfl q, fun _ => ?_⟩
      refine kb (wr (wr (wr (wrL τ v) 15 0 7 0) 15 0 7 0) 15 0 7 0) ((row_7 _ 0).trans ((row_7 _ 0).trans ((row_7 _ 0).trans e8))) _ _ ?_
      rw [bitR (by omega) (by omega)]
      refine ⟨fun q => ⟨rfl, fun _ => ⟨fun _ => v0 q, fun u => absurd rfl u⟩, I'.to ?_⟩, fun q => ⟨rfl, fun _ => ⟨fun u => absurd u (by decide), fun _ => v1 q⟩, I'.to ?_⟩⟩
      · exact (kpThr τ v 0).tr ((kp7 _ 0).tr (kp7 _ 0))
      · exact (kpThr τ v 0).tr ((kp7 _ 0).tr (kp7 _ 0))
    refine ⟨fun _ => ?_, fun q => absurd (e0.mp q) c⟩
    rw [bitC (by omega) (by omega)]
    refine ⟨fun q => ⟨fun _ => ref 0 (fun _ => rfl) (fun u => absurd (q.symm.trans u) (by decide)), fun u => absurd rfl u⟩, fun q => ⟨fun u => absurd u (by decide), fun _ => ref 1 (fun u => absurd ?_ q) (fun _ => rfl)⟩⟩
    cases hc : (bF w s z nB nd sp (2 ^ nB - 1)).testBit i with
    | true => exact absurd hc u
    | false => rfl
