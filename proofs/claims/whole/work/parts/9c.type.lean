/-! A SIGN TYPED -/
theorem Txt.on2 {b n : Nat} {σ σ' : Mem} {a a' : Nat → Int32} (h1 : ∀ s : Nat, rd σ' 13 b s = rd σ 13 b s) (h2 : ∀ s : Nat, rd σ' 16 b s = rd σ 16 b s) (h3 : σ'.2.2.1 b = σ.2.2.1 b) (e : ∀ i : Nat, a' i = a i) (x : Txt σ b n a) : Txt σ' b n a' := by
  obtain ⟨q1, q2, q3, q4, q5, q6⟩ := x
  exact ⟨by rw [h1]; exact q1, by rw [h1]; exact q2, by rw [h3]; exact q3, by rw [h3]; exact q4, fun i hi => by rw [h2, e]; exact q5 i hi, fun i hi => by rw [h2]; rw [h3] at hi; exact q6 i hi⟩
theorem inv_txt {t nT nT' nL nL' nC nx : Nat} {σ σf : Mem} (I : InvT t nT nL nC nx σ) (hT' : nT' ≤ 60) (hL' : nL' ≤ 90)
    (g : ∀ f k s : Nat, ¬ (f = 13 ∨ f = 16) → ¬ (f = 15 ∧ k = 0 ∧ (s = 7 ∨ s = 14 ∨ s = 17)) → ¬ (f = 10 ∧ (k = 14 ∨ k = 15)) → rd σf f k s = rd σ f k s)
    (TL : Txt σf 1 nL' (rd σf 10 14)) (e14 : rd σf 15 0 14 = nI nL') (TT : Txt σf 0 nT' (rd σf 10 15)) (e17 : rd σf 15 0 17 = nI nT') : InvT t nT' nL' nC nx σf := by
  obtain ⟨hN, hst, h3, ⟨h4, h5, h6, h7⟩, h8, h9, h10, h11, hZ⟩ := I
  have gs : ∀ k : Nat, ∀ f k' s : Nat, SIn k f k' → rd σf f k' s = rd σ f k' s := by
    intro k f k' s hh
    unfold SIn at hh
    exact g f k' s (by omega) (by omega) (by omega)
  have gx : ∀ s : Nat, ¬ (s = 7 ∨ s = 14 ∨ s = 17) → rd σf 15 0 s = rd σ 15 0 s := fun s hs => g 15 0 s (by omega) (by omega) (by omega)
  have gy : ∀ s : Nat, rd σf 14 0 s = rd σ 14 0 s := fun s => g 14 0 s (by omega) (by omega) (by omega)
  have g5 : ∀ s : Nat, rd σf 5 0 s = rd σ 5 0 s := fun s => g 5 0 s (by omega) (by omega) (by omega)
  have ga : ∀ k s : Nat, k ≠ 14 → k ≠ 15 → rd σf 10 k s = rd σ 10 k s := fun k s h1 h2 => g 10 k s (by omega) (by omega) (by omega)
  refine ⟨⟨hT', hL', hN.2.2.1, hN.2.2.2⟩, ?_, ⟨?_, ?_⟩, ⟨?_, ?_, ?_, fun i hi => ?_⟩, ?_, ?_, ⟨TL, e14⟩, ⟨TT, e17⟩, fun k hk => ?_, fun m hm => ?_⟩
  · exact StOk.on (gs 0) (fun i _ => ga 8 i (by decide) (by decide)) hst
  · rw [gy, gx 12 (by omega)]
    exact h3.1
  · rw [gx 12 (by omega)]
    exact h3.2.imp id fun z => ⟨z.1, StOk.on (gs 2) (fun i _ => ga 10 i (by decide) (by decide)) z.2⟩
  · rw [g5]; exact h4
  · rw [g5]; exact h5
  · rw [gx 6 (by omega)]; exact h6
  · exact StOk.on (gs _) (fun q _ => ga 11 _ (by decide) (by decide)) (h7 i hi)
  · rw [gy, gx 8 (by omega)]
    exact h8
  · rw [gy, gx 9 (by omega)]
    exact h9
  · rw [ga k 0 (by omega) (by omega)]
    exact hZ.1 k hk
  · rw [ga 12 m (by decide) (by decide)]
    exact hZ.2 m hm
theorem pC_51 {j : Nat} {σ : Mem} (I : Inv j σ) (a1 : Int32) : wC_51 a1 σ (Inv (j + 1)) := by
  have I0 := I
  obtain ⟨t, nT, nL, nC, nx, hjt, J⟩ := I
  have J0 := J
  obtain ⟨hN, hst, h3, h4, h8, h9, h10, h11, hZ⟩ := J
  unfold wC_51
  rw [pk_char]
  obtain ⟨c, hc⟩ : ∃ c, c = a1.toBitVec.toNat % 65536 := ⟨_, rfl⟩
  have hc2 : c < 65536 := by rw [hc]; exact Nat.mod_lt _ (by decide)
  rw [← hc]
  unfold wL_type wX12_type wX13_type
  have W := h11.1.wb
  have hin : (nI c < 32 ∨ 126 < nI c) ↔ (c < 32 ∨ 126 < c) := by
    rw [show (32 : Int32) = nI 32 from rfl, show (126 : Int32) = nI 126 from rfl, nI_ltI (by omega) (by omega), nI_ltI (by omega) (by omega)]
  have bad : (c < 32 ∨ 126 < c) → wX13_isIn (nI c) 32 126 σ (fun r1 s2 => (¬ r1 = 0 → wX13_type_17 (fun bb s1 => wX13_thrown s1 (fun t s2 => t = 1 ∧ ((1 : Int32) = 0 → rdL s2 = bb.toInt64) ∧ Inv (j + 1) s2) (fun _ _ => False)) (fun _ _ => False) (nI c) 0 s2) ∧ (r1 = 0 → wX13_type_17 (fun bb s1 => wX13_thrown s1 (fun t s2 => t = 1 ∧ ((1 : Int32) = 0 → rdL s2 = bb.toInt64) ∧ Inv (j + 1) s2) (fun _ _ => False)) (fun _ _ => False) (nI c) 1 s2)) (fun _ _ => False) := by
    intro hb
    refine w_in0 (hin.mpr hb) ⟨fun q => absurd rfl q, fun _ => ?_⟩
    unfold wX13_type_17
    exact w_thr1 ⟨fun _ => ⟨rfl, fun q => absurd q (by decide), I0.to (kp7 σ 1)⟩, fun q => absurd q (by decide)⟩
  refine ⟨fun q => Or.inl ⟨rfl, bad (hin.mp (Or.inl q))⟩, fun q => ⟨fun q2 => ?_, fun q2 => Or.inl ⟨rfl, bad ?_⟩⟩⟩
  rotate_left
  · rw [show (126 : Int32) = nI 126 from rfl, nI_leI (by omega) (by omega)] at q2
    omega
  rw [show (32 : Int32) = nI 32 from rfl, nI_ltI (by omega) (by omega)] at q
  rw [show (126 : Int32) = nI 126 from rfl, nI_leI (by omega) (by omega)] at q2
  have nb : ¬ (nI c < 32 ∨ 126 < nI c) := fun z => by have := hin.mp z; omega
  unfold wX8_isFull
  refine w_len W ⟨rfl, ?_⟩
  rw [show (60 : Int32) = nI 60 from rfl, nI_ltI (by omega) (by omega)]
  refine ⟨fun cf => ⟨fun _ => ?_, fun z => absurd rfl z⟩, fun cf => ⟨fun z => absurd z (by decide), fun _ => Or.inr ⟨rfl, ?_⟩⟩⟩
  rotate_left
  · refine w_in1 nb ⟨fun _ => ?_, fun z => absurd z (by decide)⟩
    unfold wX13_type_17
    refine w_thr0 ⟨fun z => absurd rfl z, fun _ => ⟨fun z => absurd ?_ z, fun _ => ?_⟩⟩
    · rw [rd_wr, if_neg (by omega), h11.2, show nT = 60 by omega]
      rfl
    · exact w_thr1 ⟨fun z => absurd z (by decide), fun _ => ⟨rfl, fun z => absurd z (by decide), I0.to ((kp7 σ 0).tr (kp7 _ 2))⟩⟩
  unfold wX8_append
  refine w_appC W rfl (by omega) (by omega) (fun τ t1 t2 t3 t4 => ?_)
  refine w_len t2 ⟨rfl, ?_⟩
  have el : ∀ (v : Int64) (f k s : Nat), rd (wrL τ v) f k s = rd τ f k s := fun _ _ _ _ => rfl
  refine w_in1 nb ⟨fun _ => ?_, fun z => absurd z (by decide)⟩
  unfold wX13_type_17
  have e17 : rd τ 15 0 17 = nI nT := (t1.1 15 0 17 (by omega)).trans h11.2
  refine w_thr0 ⟨fun z => absurd rfl z, fun _ => ⟨fun _ => ?_, fun z => ?_⟩⟩
  rotate_left
  · rw [rd_wr, if_neg (by omega), el, e17, show (60 : Int32) = nI 60 from rfl, nI_eq (by omega) (by omega)] at z
    omega
  refine w_thr0 ⟨fun _ => ?_, fun z => absurd rfl z⟩
  rw [rd_wr, if_neg (by omega), rd_wr, if_neg (by omega), el, e17, nI_clamp (by omega)]
  refine ⟨vp_in_nI (show nT < 60 by omega) (by decide), fun s7 h7 s8 h8' => ?_⟩
  have k17 : rd s7 15 0 17 = nI nT := by rw [h7, rd_wr, if_neg (by omega), rd_wr, if_neg (by omega), rd_wr, if_neg (by omega), el, e17]
  rw [k17, nI_1] at h8'
  have g : ∀ f k s : Nat, ¬ (f = 15 ∧ k = 0 ∧ (s = 7 ∨ s = 17)) → ¬ (f = 10 ∧ k = 15 ∧ s = nT) → rd s8 f k s = rd τ f k s := fun f k s n1 n2 => by rw [h8', rd_wr, if_neg (by omega), h7, rd_wr, if_neg (by omega), rd_wr, if_neg (by omega), rd_wr, if_neg (by omega), el]
  have e8 : rd s8 15 0 17 = nI (nT + 1) := by rw [h8', rd_wr, if_pos ⟨rfl, rfl, rfl⟩]
  have c2 : s8.2.2.1 = τ.2.2.1 := by rw [h8', h7]; rfl
  rw [e8]
  refine ⟨?_, fun _ => ?_, t, nT + 1, nL, nC, nx, by omega, inv_txt J0 (by omega) hN.2.1 (fun f k s n1 n2 n3 => ?_) ?_ ?_ ?_ e8⟩
  · rw [h8', rd_wr, if_neg (by omega), h7, rd_wr, if_neg (by omega), th_at]
  · rw [h8', h7]
    rfl
  · rw [g f k s (by omega) (by omega)]
    exact t1.1 f k s (by omega)
  · exact h10.1.on2 (fun s => (g 13 1 s (by omega) (by omega)).trans (t1.1 13 1 s (by omega))) (fun s => (g 16 1 s (by omega) (by omega)).trans (t1.1 16 1 s (by omega))) (by rw [c2]; exact t1.2.1 1 (by decide)) (fun i => (g 10 14 i (by omega) (by omega)).trans (t1.1 10 14 i (by omega)))
  · rw [g 15 0 14 (by omega) (by omega), t1.1 15 0 14 (by omega)]
    exact h10.2
  · refine Txt.mk ⟨(g 13 0 1 (by omega) (by omega)).trans t2.1, (g 13 0 3 (by omega) (by omega)).trans t2.2.1, by rw [c2]; exact t2.2.2.1, by rw [c2]; exact t2.2.2.2.1, fun i hi => ?_⟩ (fun i hi => ?_)
    · rw [g 16 0 i (by omega) (by omega)]
      rw [c2] at hi
      exact t2.2.2.2.2 i hi
    · rw [g 16 0 i (by omega) (by omega)]
      by_cases e : i = nT
      · subst e
        have e2 : rd s8 10 15 i = nI c := by rw [h8', rd_wr, if_neg (by omega), h7, rd_wr, if_pos ⟨rfl, rfl, rfl⟩]
        rw [e2]
        exact ⟨t4, c, by omega, rfl⟩
      · rw [t3 i (by omega), g 10 15 i (by omega) (by omega), t1.1 10 15 i (by omega)]
        exact h11.1.2.2.2.2.1 i (by omega)
