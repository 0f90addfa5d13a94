/-! WHAT SEEN SEES -/
/-- the row of ints that seen makes out of a row -/
def snF (nB nO nP : Nat) (a : Nat → Int32) (s : Nat) : Int32 :=
  if s < 10 then [a 0, a 1, a 2, a 3, a 6, a 7, a 8, nI nB, nI nO, nI nP].getD s 0
  else if s < 52 then (if (s - 10) / 4 < nB then a (14 + 4 * ((s - 10) / 4) + (s - 10) % 4) else 0)
  else if s < 90 then (if (s - 52) / 4 < nO then (if (s - 52) % 4 = 3 then csp nP a ((s - 52) / 4) else a (54 + 3 * ((s - 52) / 4) + (s - 52) % 4)) else 0)
  else if s - 90 < nP then a (78 + (s - 90)) else 0
theorem sn_b {nB nO nP i d : Nat} {a : Nat → Int32} (hB : nB ≤ 10) (hi : i < nB) (hd : d < 4) : snF nB nO nP a (10 + d + 4 * i) = a (14 + 4 * i + d) := by
  unfold snF
  rw [if_neg (by omega), if_pos (by omega), show (10 + d + 4 * i - 10) / 4 = i by omega, show (10 + d + 4 * i - 10) % 4 = d by omega, if_pos hi]
theorem sn_o {nB nO nP i d : Nat} {a : Nat → Int32} (hO : nO ≤ 8) (hi : i < nO) (hd : d < 3) : snF nB nO nP a (52 + d + 4 * i) = a (54 + 3 * i + d) := by
  unfold snF
  rw [if_neg (by omega), if_neg (by omega), if_pos (by omega), show (52 + d + 4 * i - 52) / 4 = i by omega, show (52 + d + 4 * i - 52) % 4 = d by omega, if_pos hi, if_neg (by omega)]
theorem sn_c {nB nO nP i : Nat} {a : Nat → Int32} (hO : nO ≤ 8) (hi : i < nO) : snF nB nO nP a (55 + 4 * i) = csp nP a i := by
  unfold snF
  rw [if_neg (by omega), if_neg (by omega), if_pos (by omega), show (55 + 4 * i - 52) / 4 = i by omega, show (55 + 4 * i - 52) % 4 = 3 by omega, if_pos hi, if_pos rfl]
theorem sn_p {nB nO nP i : Nat} {a : Nat → Int32} (hi : i < nP) : snF nB nO nP a (90 + i) = a (78 + i) := by
  unfold snF
  rw [if_neg (by omega), if_neg (by omega), if_neg (by omega), show 90 + i - 90 = i by omega, if_pos hi]
theorem sn_b0 {nB nO nP s : Nat} {a : Nat → Int32} (h1 : 10 + 4 * nB ≤ s) (h2 : s < 52) : snF nB nO nP a s = 0 := by
  unfold snF
  rw [if_neg (by omega), if_pos h2, if_neg (by omega)]
theorem sn_o0 {nB nO nP s : Nat} {a : Nat → Int32} (h1 : 52 + 4 * nO ≤ s) (h2 : s < 90) : snF nB nO nP a s = 0 := by
  unfold snF
  rw [if_neg (by omega), if_neg (by omega), if_pos h2, if_neg (by omega)]
theorem sn_p0 {nB nO nP s : Nat} {a : Nat → Int32} (h1 : 90 + nP ≤ s) : snF nB nO nP a s = 0 := by
  unfold snF
  rw [if_neg (by omega), if_neg (by omega), if_neg (by omega), if_neg (by omega)]
/-- the first b cells of array k are f's, the others 0; all else is as it was -/
def SN (σ τ : Mem) (k : Nat) (f : Nat → Int32) (b : Nat) : Prop := (∀ f' k' s : Nat, ¬ (f' = 19 ∧ k' = k) → rd τ f' k' s = rd σ f' k' s) ∧ τ.2 = σ.2 ∧ ∀ s : Nat, rd τ 19 k s = if s < b then f s else 0
theorem SN.wr {σ τ : Mem} {k b : Nat} {f : Nat → Int32} {v : Int32} (h : SN σ τ k f b) (hv : v = f b) : SN σ (wr τ 19 k b v) k f (b + 1) := by
  refine ⟨fun f' k' s n => by rw [rd_wr, if_neg (by rintro ⟨rfl, rfl, -⟩; exact n ⟨rfl, rfl⟩)]; exact h.1 f' k' s n, by rw [wr_2]; exact h.2.1, fun s => ?_⟩
  rw [rd_wr]
  by_cases e : s = b
  · subst e
    rw [if_pos ⟨rfl, rfl, rfl⟩, if_pos (Nat.lt_succ_self s)]
    exact hv
  · rw [if_neg (by rintro ⟨-, -, z⟩; exact e z), h.2.2 s]
    by_cases c : s < b
    · rw [if_pos c, if_pos (by omega)]
    · rw [if_neg c, if_neg (by omega)]
theorem SN.same {σ τ : Mem} {k b nB nO nP : Nat} {f a : Nat → Int32} (h : SN σ τ k f b) (S : Same σ 0 nB nO nP a) : Same τ 0 nB nO nP a := S.on fun f' k' s hh => h.1 f' k' s (by unfold SIn at hh; omega)
theorem SN.to {σ τ : Mem} {k b b' : Nat} {f : Nat → Int32} (h : SN σ τ k f b) (hb : b ≤ b') (h0 : ∀ s : Nat, b ≤ s → s < b' → f s = 0) : SN σ τ k f b' := by
  refine ⟨h.1, h.2.1, fun s => ?_⟩
  rw [h.2.2 s]
  by_cases c : s < b
  · rw [if_pos c, if_pos (by omega)]
  · rw [if_neg c]
    by_cases c2 : s < b'
    · rw [if_pos c2, h0 s (by omega) c2]
    · rw [if_neg c2]
theorem ix4 (c n : Nat) : nI c + (nI 4 * nI n) = nI (c + 4 * n) := by rw [pk_mul, nI_add]
theorem ix1 (c n : Nat) : nI c + nI n = nI (c + n) := nI_add c n
section SE
variable {t nB nO nP k : Nat} {a : Nat → Int32} {σ : Mem} {Q : Mem → Prop} {E : String → Mem → Prop}
theorem w_snP (F : Fits t nB nO nP a) (S : Same σ 0 nB nO nP a) {X : Mem → Prop} (h : ∀ τ : Mem, SN σ τ k (snF nB nO nP a) (90 + nP) → X τ) : ∀ (d i : Nat) (τ : Mem), d + i = nP → SN σ τ k (snF nB nO nP a) (90 + i) → wL_seen_229 k Q E X (d + 1) (nI i) τ := by
  have hP := F.1.2.2.1
  intro d
  induction d with
  | zero =>
    intro i τ e N
    obtain rfl : i = nP := by omega
    show (rd τ 0 9 1 ≤ nI i → X τ) ∧ (¬ rd τ 0 9 1 ≤ nI i → _)
    rw [show rd τ 0 9 1 = nI i from (N.same S).2.2.2.1]
    exact ⟨fun _ => h τ N, fun q => absurd (Int32.le_refl _) q⟩
  | succ d ih =>
    intro i τ e N
    have hi : i < nP := by omega
    show (rd τ 0 9 1 ≤ nI i → X τ) ∧ (¬ rd τ 0 9 1 ≤ nI i → _)
    rw [show rd τ 0 9 1 = nI nP from (N.same S).2.2.2.1]
    refine ⟨fun q => absurd q (nI_ge hi (by omega)), fun _ => q_pieceLength (N.same S) hP hi ?_⟩
    rw [show (90 : Int32) + nI i = nI (90 + i) from ix1 90 i]
    refine ⟨vp_in_nI (show 90 + i < 110 by omega) (by decide), fun s70 h70 v2 hv2 => ?_⟩
    rw [nI_clamp (by omega)] at h70
    subst h70 hv2
    rw [nI_1]
    exact ih (i + 1) _ (by omega) (N.wr (sn_p hi).symm)
theorem w_snO (ht : t ≤ 512) (F : Fits t nB nO nP a) (G : Srt t nB nO a) (S : Same σ 0 nB nO nP a) {X : Mem → Prop} (h : ∀ τ : Mem, SN σ τ k (snF nB nO nP a) (52 + 4 * nO) → X τ) : ∀ (d i : Nat) (τ : Mem), d + i = nO → SN σ τ k (snF nB nO nP a) (52 + 4 * i) → wL_seen_151 k Q E X (d + 1) (nI i) τ := by
  have hO := F.1.2.1
  intro d
  induction d with
  | zero =>
    intro i τ e N
    obtain rfl : i = nO := by omega
    show (rd τ 0 5 1 ≤ nI i → X τ) ∧ (¬ rd τ 0 5 1 ≤ nI i → _)
    rw [show rd τ 0 5 1 = nI i from ((N.same S).rO 0 (by decide)).1]
    exact ⟨fun _ => h τ N, fun q => absurd (Int32.le_refl _) q⟩
  | succ d ih =>
    intro i τ e N
    have hi : i < nO := by omega
    show (rd τ 0 5 1 ≤ nI i → X τ) ∧ (¬ rd τ 0 5 1 ≤ nI i → _)
    rw [show rd τ 0 5 1 = nI nO from ((N.same S).rO 0 (by decide)).1]
    refine ⟨fun q => absurd q (nI_ge hi (by omega)), fun _ => q_orderAt (N.same S) hO hi ?_⟩
    rw [show (52 : Int32) + (4 * nI i) = nI (52 + 4 * i) from ix4 52 i, show (53 : Int32) + (4 * nI i) = nI (53 + 4 * i) from ix4 53 i, show (54 : Int32) + (4 * nI i) = nI (54 + 4 * i) from ix4 54 i, show (55 : Int32) + (4 * nI i) = nI (55 + 4 * i) from ix4 55 i]
    rw [nI_clamp (show 52 + 4 * i < 2 ^ 31 by omega), nI_clamp (show 53 + 4 * i < 2 ^ 31 by omega), nI_clamp (show 54 + 4 * i < 2 ^ 31 by omega), nI_clamp (show 55 + 4 * i < 2 ^ 31 by omega)]
    refine ⟨vp_in_nI (show 52 + 4 * i < 110 by omega) (by decide), fun s1 h1 => ?_⟩
    have N1 := N.wr (v := a (54 + 3 * i)) (sn_o (d := 0) hO hi (by decide)).symm
    rw [← h1] at N1
    refine q_lengthOf ht (N1.same S) G hO hi ⟨vp_in_nI (show 53 + 4 * i < 110 by omega) (by decide), fun s2 h2 => ?_⟩
    have N2 := N1.wr (v := a (55 + 3 * i)) (by rw [show 52 + 4 * i + 1 = 52 + 1 + 4 * i by omega, sn_o hO hi (by decide), show 54 + 3 * i + 1 = 55 + 3 * i by omega])
    rw [show 52 + 4 * i + 1 = 53 + 4 * i by omega, ← h2] at N2
    refine q_twistOf ht (N2.same S) G hO hi ⟨vp_in_nI (show 54 + 4 * i < 110 by omega) (by decide), fun s3 h3 => ?_⟩
    have N3 := N2.wr (v := a (56 + 3 * i)) (by rw [show 53 + 4 * i + 1 = 52 + 2 + 4 * i by omega, sn_o hO hi (by decide), show 54 + 3 * i + 2 = 56 + 3 * i by omega])
    rw [show 53 + 4 * i + 1 = 54 + 4 * i by omega, ← h3] at N3
    refine q_canSpin ht (N3.same S) F G hi ⟨fun q => ?_, fun q => ?_⟩
    · refine ⟨vp_in_nI (show 55 + 4 * i < 110 by omega) (by decide), fun s4 h4 v2 hv2 => ?_⟩
      have N4 := N3.wr (v := 0) (by rw [show 54 + 4 * i + 1 = 55 + 4 * i by omega, sn_c hO hi, q])
      rw [show 54 + 4 * i + 1 = 55 + 4 * i by omega, ← h4, show 55 + 4 * i + 1 = 52 + 4 * (i + 1) by omega] at N4
      subst hv2
      rw [nI_1]
      exact ih (i + 1) _ (by omega) N4
    · have q1 : csp nP a i = 1 := by
        unfold csp at q ⊢
        split
        · rfl
        · rename_i c
          rw [if_neg c] at q
          exact absurd rfl q
      refine ⟨vp_in_nI (show 55 + 4 * i < 110 by omega) (by decide), fun s4 h4 v2 hv2 => ?_⟩
      have N4 := N3.wr (v := 1) (by rw [show 54 + 4 * i + 1 = 55 + 4 * i by omega, sn_c hO hi, q1])
      rw [show 54 + 4 * i + 1 = 55 + 4 * i by omega, ← h4, show 55 + 4 * i + 1 = 52 + 4 * (i + 1) by omega] at N4
      subst hv2
      rw [nI_1]
      exact ih (i + 1) _ (by omega) N4
theorem w_snB (ht : t ≤ 512) (F : Fits t nB nO nP a) (G : Srt t nB nO a) (S : Same σ 0 nB nO nP a) {X : Mem → Prop} (h : ∀ τ : Mem, SN σ τ k (snF nB nO nP a) (10 + 4 * nB) → X τ) : ∀ (d i : Nat) (τ : Mem), d + i = nB → SN σ τ k (snF nB nO nP a) (10 + 4 * i) → wL_seen_81 k Q E X (d + 1) (nI i) τ := by
  have hB := F.1.1
  intro d
  induction d with
  | zero =>
    intro i τ e N
    obtain rfl : i = nB := by omega
    show (rd τ 0 0 1 ≤ nI i → X τ) ∧ (¬ rd τ 0 0 1 ≤ nI i → _)
    rw [show rd τ 0 0 1 = nI i from ((N.same S).rB 0 (by decide)).1]
    exact ⟨fun _ => h τ N, fun q => absurd (Int32.le_refl _) q⟩
  | succ d ih =>
    intro i τ e N
    have hi : i < nB := by omega
    show (rd τ 0 0 1 ≤ nI i → X τ) ∧ (¬ rd τ 0 0 1 ≤ nI i → _)
    rw [show rd τ 0 0 1 = nI nB from ((N.same S).rB 0 (by decide)).1]
    refine ⟨fun q => absurd q (nI_ge hi (by omega)), fun _ => q_baleAt (N.same S) hB hi ?_⟩
    rw [show (10 : Int32) + (4 * nI i) = nI (10 + 4 * i) from ix4 10 i, show (11 : Int32) + (4 * nI i) = nI (11 + 4 * i) from ix4 11 i, show (12 : Int32) + (4 * nI i) = nI (12 + 4 * i) from ix4 12 i, show (13 : Int32) + (4 * nI i) = nI (13 + 4 * i) from ix4 13 i]
    rw [nI_clamp (show 10 + 4 * i < 2 ^ 31 by omega), nI_clamp (show 11 + 4 * i < 2 ^ 31 by omega), nI_clamp (show 12 + 4 * i < 2 ^ 31 by omega), nI_clamp (show 13 + 4 * i < 2 ^ 31 by omega)]
    refine ⟨vp_in_nI (show 10 + 4 * i < 110 by omega) (by decide), fun s1 h1 => ?_⟩
    have N1 := N.wr (v := a (14 + 4 * i)) (sn_b (d := 0) hB hi (by decide)).symm
    rw [← h1] at N1
    refine q_weight ht (N1.same S) G hB hi ⟨vp_in_nI (show 11 + 4 * i < 110 by omega) (by decide), fun s2 h2 => ?_⟩
    have N2 := N1.wr (v := a (15 + 4 * i)) (by rw [show 10 + 4 * i + 1 = 10 + 1 + 4 * i by omega, sn_b hB hi (by decide), show 14 + 4 * i + 1 = 15 + 4 * i by omega])
    rw [show 10 + 4 * i + 1 = 11 + 4 * i by omega, ← h2] at N2
    refine q_staple ht (N2.same S) G hB hi ⟨vp_in_nI (show 12 + 4 * i < 110 by omega) (by decide), fun s3 h3 => ?_⟩
    have N3 := N2.wr (v := a (16 + 4 * i)) (by rw [show 11 + 4 * i + 1 = 10 + 2 + 4 * i by omega, sn_b hB hi (by decide), show 14 + 4 * i + 2 = 16 + 4 * i by omega])
    rw [show 11 + 4 * i + 1 = 12 + 4 * i by omega, ← h3] at N3
    refine q_price ht (N3.same S) G hB hi ⟨vp_in_nI (show 13 + 4 * i < 110 by omega) (by decide), fun s4 h4 v2 hv2 => ?_⟩
    have N4 := N3.wr (v := a (17 + 4 * i)) (by rw [show 12 + 4 * i + 1 = 10 + 3 + 4 * i by omega, sn_b hB hi (by decide), show 14 + 4 * i + 3 = 17 + 4 * i by omega])
    rw [show 12 + 4 * i + 1 = 13 + 4 * i by omega, ← h4, show 13 + 4 * i + 1 = 10 + 4 * (i + 1) by omega] at N4
    subst hv2
    rw [nI_1]
    exact ih (i + 1) _ (by omega) N4
/-- seen: array k is what seen sees of the row; all else is as it was -/
theorem w_seen (ht : t ≤ 512) (F : Fits t nB nO nP a) (G : Srt t nB nO a) (S : Same σ 0 nB nO nP a) (h : ∀ τ : Mem, (∀ f' k' s : Nat, ¬ (f' = 19 ∧ k' = k) → rd τ f' k' s = rd σ f' k' s) → τ.2 = σ.2 → (∀ s : Nat, rd τ 19 k s = snF nB nO nP a s) → Q τ) : wL_seen k σ Q E := by
  intro s1 hN
  have N0 : SN σ s1 k (snF nB nO nP a) 0 := ⟨hN.1, hN.2.2, fun s => by rw [hN.2.1 s, if_neg (Nat.not_lt_zero s)]⟩
  have rest : ∀ τ : Mem, SN σ τ k (snF nB nO nP a) 10 → ∃ m : Nat, m ≤ 13 ∧ wL_seen_81 k Q E (fun s47 => ∃ m : Nat, m ≤ 13 ∧ wL_seen_151 k Q E (fun s65 => ∃ m : Nat, m ≤ 13 ∧ wL_seen_229 k Q E (fun s72 => Q s72) m 0 s65) m 0 s47) m 0 τ := by
    intro τ N
    have hB := F.1.1
    have hO := F.1.2.1
    have hP := F.1.2.2.1
    refine ⟨nB + 1, by omega, w_snB ht F G S (fun τ1 N1 => ?_) nB 0 τ rfl N⟩
    refine ⟨nO + 1, by omega, w_snO ht F G S (fun τ2 N2 => ?_) nO 0 τ1 rfl (N1.to (by omega) (fun s h1 h2 => sn_b0 h1 h2))⟩
    refine ⟨nP + 1, by omega, w_snP F S (fun τ3 N3 => ?_) nP 0 τ2 rfl (N2.to (by omega) (fun s h1 h2 => sn_o0 h1 h2))⟩
    refine h τ3 N3.1 N3.2.1 (fun s => ?_)
    rw [N3.2.2 s]
    by_cases c : s < 90 + nP
    · rw [if_pos c]
    · rw [if_neg c, sn_p0 (by omega)]
  obtain ⟨z6, z3, z5, z4, z7, z8, z9, z10, z11, y2, y3⟩ := S.1
  intro s4 h4
  have N1 := N0.wr (v := rd s1 4 0 6) ((N0.1 4 0 6 (by omega)).trans z6)
  rw [← h4] at N1
  intro s7 h7
  have N2 := N1.wr (v := rd s4 4 0 3) ((N1.1 4 0 3 (by omega)).trans z3)
  rw [← h7] at N2
  intro s10 h10
  have N3 := N2.wr (v := rd s7 4 0 5) ((N2.1 4 0 5 (by omega)).trans z5)
  rw [← h10] at N3
  intro s13 h13
  have N4 := N3.wr (v := rd s10 4 0 4) ((N3.1 4 0 4 (by omega)).trans z4)
  rw [← h13] at N4
  intro s16 h16
  have N5 := N4.wr (v := rd s13 4 0 9) ((N4.1 4 0 9 (by omega)).trans z9)
  rw [← h16] at N5
  intro s19 h19
  have N6 := N5.wr (v := rd s16 4 0 10) ((N5.1 4 0 10 (by omega)).trans z10)
  rw [← h19] at N6
  intro s22 h22
  have N7 := N6.wr (v := rd s19 4 0 11) ((N6.1 4 0 11 (by omega)).trans z11)
  rw [← h22] at N7
  intro s25 h25
  have N8 := N7.wr (v := rd s22 0 0 1) ((N7.1 0 0 1 (by omega)).trans (S.rB 0 (by decide)).1)
  rw [← h25] at N8
  intro s28 h28
  have N9 := N8.wr (v := rd s25 0 5 1) ((N8.1 0 5 1 (by omega)).trans (S.rO 0 (by decide)).1)
  rw [← h28] at N9
  intro s31 h31
  have N10 := N9.wr (v := rd s28 0 9 1) ((N9.1 0 9 1 (by omega)).trans S.2.2.2.1)
  rw [← h31] at N10
  exact rest s31 N10
end SE
