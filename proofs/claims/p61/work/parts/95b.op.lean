/-! A CHANGE OF THE CLASS -/
theorem bl_le (a : Nat → Int32) (b n i : Nat) : (bl a b n i).1 ≤ n := by
  induction i with
  | zero => exact Nat.le_refl n
  | succ i ih =>
    unfold bl
    split
    · exact Nat.le_trans (Nat.sub_le _ 1) ih
    · exact ih
theorem Srt.rem {t n nO k : Nat} {a : Nat → Int32} (hk : k < n + 1) (hn : n + 1 ≤ 10) (hO : nO ≤ 8) (G : Srt t (n + 1) nO a) : Srt t n nO (r_rem a k n) := by
  have o : ∀ s : Nat, s ≠ 11 → (s < 14 ∨ 54 ≤ s) → r_rem a k n s = a s := fun s h h2 => rem_o (by omega) h h2
  refine ⟨by rw [o 0 (by omega) (by omega)]; exact G.1, G.2.1.del (Nat.le_refl t) hk (fun q hq => rem_q (d := 0) hk hn hq (by decide)) (o 9 (by omega) (by omega)), G.2.2.cg (Nat.le_refl t) (fun q hq => o _ (by omega) (by omega)) (o 10 (by omega) (by omega))⟩
theorem bl_srt {t nO : Nat} {a : Nat → Int32} (b n i : Nat) (hi : i ≤ n) (hn : n ≤ 10) (hO : nO ≤ 8) (G : Srt t n nO a) : Srt t (bl a b n i).1 nO (bl a b n i).2 := by
  induction i with
  | zero => exact G
  | succ i ih =>
    have h := ih (by omega)
    have g := bl_ge a b n i (by omega)
    have hle := bl_le a b n i
    unfold bl
    split
    · show Srt t ((bl a b n i).1 - 1) nO (r_rem (bl a b n i).2 (n - 1 - i) ((bl a b n i).1 - 1))
      obtain ⟨m, hm⟩ : ∃ m, (bl a b n i).1 = m + 1 := ⟨(bl a b n i).1 - 1, by omega⟩
      rw [hm] at h ⊢
      exact h.rem (by omega) (by omega) hO
    · exact h
theorem op_1 {t nB nO nP : Nat} {a : Nat → Int32} (x1 x2 : Int32) (ht : t ≤ 512) (F : Fits t nB nO nP a) (G : Srt t nB nO a) : Ch 1 x1 x2 0 [1, 3, 2] t nB nO nP a := by
  have hB := F.1.1
  have hO := F.1.2.1
  have hP := F.1.2.2.1
  have e11 : a 11 = nI nB := F.1.2.2.2.1
  obtain ⟨r, hr2, hr⟩ := F.2.2.1
  have bad : (x1 < 1 ∨ 500 < x1) ∨ (¬ (x1 < 1 ∨ 500 < x1) ∧ (x2 < 10 ∨ 60 < x2)) → Ch 1 x1 x2 0 [1, 3, 2] t nB nO nP a := by
    intro hb
    refine Or.inl ⟨1, by simp, fun σ Q E S _ h => ?_⟩
    · exact ⟨fun q => absurd q (by decide), fun _ => w_can0 hb ⟨fun q => absurd rfl q, fun _ => h σ (FrS.rf σ)⟩, fun q => absurd q (by decide), fun q => absurd q (by decide), fun q => absurd q (by decide), fun q => absurd q (by decide), fun q => absurd q (by decide), fun q => absurd q (by decide), fun q => absurd q (by decide)⟩
  rcases ask_or x1 x2 with hb | hb | ⟨nd, sp, h1, h2⟩
  · exact bad (Or.inl hb)
  · exact bad (Or.inr hb)
  obtain ⟨w, s, z, hb⟩ := bal_wsp F
  have BR : BRx a nB w s z := ⟨hB, e11, fun q hq => ⟨(hb q hq).1, (hb q hq).2.1, (hb q hq).2.2.1⟩, fun q hq => (hb q hq).2.2.2⟩
  have BC : ∀ σ : Mem, Same σ 0 nB nO nP a → Zer σ → BCx σ nB w s z := by
    intro σ S Z
    refine ⟨hB, ⟨S.2.1 0 (by decide), S.2.1 1 (by decide), S.2.1 2 (by decide), S.2.1 4 (by decide)⟩, fun q hq => ?_, fun q hq => (hb q hq).2.2.2, Z.1 0 (by decide), Z.1 1 (by decide), Z.1 2 (by decide)⟩
    obtain ⟨-, k1, k2, -, k3⟩ := S.2.2.2.2.1 q hq
    obtain ⟨g1, g2, g3, -⟩ := hb q hq
    refine ⟨k1.trans g1, k2.trans g2, k3.trans ?_⟩
    rw [g1, g3, pk_mul]
  obtain ⟨hB1, hB2⟩ := p2_le' hB
  have hbl := bF_le w s z nB nd sp (2 ^ nB - 1)
  obtain ⟨b, hbe⟩ : ∃ b, b = bF w s z nB nd sp (2 ^ nB - 1) := ⟨_, rfl⟩
  rw [← hbe] at hbl
  have hb1024 : b < 1024 := by omega
  have e0 : nI b = 0 ↔ b = 0 := by rw [show (0 : Int32) = nI 0 from rfl, nI_eq (by omega) (by omega)]
  have bw := (br_b BR b).1
  have best : ∀ (σ : Mem) (Q : Int32 → Mem → Prop) (E : String → Mem → Prop), Same σ 0 nB nO nP a → Zer σ → (∀ τ : Mem, FB σ τ → Q (nI b) τ) → wX2_bestSet x1 x2 σ Q E := by
    intro σ Q E S Z h
    refine w_bestSet h1.2.2 h2.2.2 (BC σ S Z) h1.2.1 h2.2.1 (fun τ t1 _ => ?_)
    rw [← hbe]
    exact h τ t1
  by_cases c0 : b = 0
  · refine Or.inl ⟨3, by simp, fun σ Q E S Z h => ?_⟩
    · exact ⟨fun q => absurd q (by decide), fun _ => w_can1 h1 h2 ⟨fun _ => best σ _ _ S Z (fun τ t1 => ⟨fun q => absurd (e0.mpr c0) q, fun _ => h τ t1.s⟩), fun q => absurd q (by decide)⟩, fun q => absurd q (by decide), fun q => absurd q (by decide), fun q => absurd q (by decide), fun q => absurd q (by decide), fun q => absurd q (by decide), fun q => absurd q (by decide), fun q => absurd q (by decide)⟩
  by_cases c1 : r + sB w b nB ≤ 999
  rotate_left
  · refine Or.inl ⟨2, by simp, fun σ Q E S Z h => ?_⟩
    · refine ⟨fun q => absurd q (by decide), fun _ => w_can1 h1 h2 ⟨fun _ => best σ _ _ S Z (fun τ t1 => ⟨fun _ => ?_, fun q => absurd (e0.mp q) c0⟩), fun q => absurd q (by decide)⟩, fun q => absurd q (by decide), fun q => absurd q (by decide), fun q => absurd q (by decide), fun q => absurd q (by decide), fun q => absurd q (by decide), fun q => absurd q (by decide), fun q => absurd q (by decide)⟩
      refine w_weightOf ((BC σ S Z).on t1) hb1024 ?_
      rw [t1.1 4 0 3 (by omega), S.1.2.1, hr, nI_add, show (999 : Int32) = nI 999 from rfl, nI_leI (by omega) (by omega)]
      exact ⟨fun q => absurd q c1, fun _ => h τ t1.s⟩
  have F1 : Fits (t + 1) nB nO nP (up a 1 (nI (r + sB w b nB))) := by
    obtain ⟨⟨f1, f2, f3, f4, f5, f6⟩, g1, g2, g3, g4, g5, g6, ⟨p, p1, p2, p3⟩, g8⟩ := F.mono (Nat.le_succ t)
    refine ⟨⟨f1, f2, f3, ?_, ?_, ?_⟩, ?_, ⟨r + sB w b nB, c1, up_eq _ _ _⟩, ?_, ?_, fun q hq => ?_, fun q hq => ?_, ⟨p, fun q hq => ?_, p2, ?_⟩, ?_⟩
    all_goals repeat (first | rw [up_ne (by omega)] | rw [up_eq])
    · exact f4
    · exact f5
    · exact f6
    · exact g1
    · exact g3
    · exact g4
    · exact g5 q hq
    · exact g6 q hq
    · exact p1 q hq
    · exact p3
    · exact g8
  have F2 := bl_fits b nB nB (Nat.le_refl nB) F1
  have e1 : (bl (up a 1 (nI (r + sB w b nB))) b nB nB).2 1 = nI (r + sB w b nB) := by
    rw [bl_up]
    exact up_eq (bl a b nB nB).2 1 (nI (r + sB w b nB))
  refine Or.inr ⟨_, nO, nP, _, nI (r + sB w b nB), ⟨F2, ?_, ?_⟩, fun σ Q E S Z h => ?_, fun σ Q E S Z h => ?_⟩
  · have G1 : Srt (t + 1) nB nO (up a 1 (nI (r + sB w b nB))) := G.to (up_ne (by omega)) (up_ne (by omega)) (up_ne (by omega)) (fun q hq => up_ne (by omega)) (fun q hq => up_ne (by omega))
    exact bl_srt b nB nB (Nat.le_refl nB) hB hO G1
  · exact ⟨r + sB w b nB, by omega, rfl⟩
  · refine ⟨fun q => absurd q (by decide), fun _ => w_can1 h1 h2 ⟨fun _ => best σ _ _ S Z (fun τ t1 => ⟨fun _ => ?_, fun q => absurd (e0.mp q) c0⟩), fun q => absurd q (by decide)⟩, fun q => absurd q (by decide), fun q => absurd q (by decide), fun q => absurd q (by decide), fun q => absurd q (by decide), fun q => absurd q (by decide), fun q => absurd q (by decide), fun q => absurd q (by decide)⟩
    refine w_weightOf ((BC σ S Z).on t1) hb1024 ?_
    rw [t1.1 4 0 3 (by omega), S.1.2.1, hr, nI_add, show (999 : Int32) = nI 999 from rfl, nI_leI (by omega) (by omega)]
    exact ⟨fun _ => h τ t1.s, fun q => absurd c1 q⟩
  · refine ⟨fun q => absurd q (by decide), fun _ => best σ _ _ S Z (fun τ t1 => w_weightOf ((BC σ S Z).on t1) hb1024 ?_), fun q => absurd q (by decide), fun q => absurd q (by decide), fun q => absurd q (by decide), fun q => absurd q (by decide), fun q => absurd q (by decide), fun q => absurd q (by decide), fun q => absurd q (by decide)⟩
    intro s3 h3
    rw [t1.1 4 0 3 (by omega), S.1.2.1, hr, nI_add] at h3
    have g : ∀ f k s : Nat, ¬ (f = 4 ∧ k = 0 ∧ s = 3) → ¬ (f = 10 ∧ k < 3 ∧ ¬ s = 0) → rd s3 f k s = rd σ f k s := fun f k s m m2 => by rw [h3, rd_wr, if_neg m, t1.1 f k s m2]
    have S3 : Same s3 0 nB nO nP (up a 1 (nI (r + sB w b nB))) := by
      obtain ⟨z6, z3, z5, z4, z7, z8, z9, z10, z11, y2, y3⟩ := S.1
      refine Same.mk0 ⟨?_, ?_, ?_, ?_, ?_, ?_, ?_, ?_, ?_, ?_, ?_⟩ (fun i hi => ⟨?_, fun q hq => ?_⟩) (fun i hi => ⟨?_, fun q hq => ?_⟩) ⟨?_, fun q hq => ?_⟩
      · rw [g 4 0 6 (by omega) (by omega), up_ne (by omega)]; exact z6
      · rw [h3, rd_wr, if_pos ⟨rfl, rfl, rfl⟩, up_eq]
      · rw [g 4 0 5 (by omega) (by omega), up_ne (by omega)]; exact z5
      · rw [g 4 0 4 (by omega) (by omega), up_ne (by omega)]; exact z4
      · rw [g 4 0 7 (by omega) (by omega), up_ne (by omega)]; exact z7
      · rw [g 4 0 8 (by omega) (by omega), up_ne (by omega)]; exact z8
      · rw [g 4 0 9 (by omega) (by omega), up_ne (by omega)]; exact z9
      · rw [g 4 0 10 (by omega) (by omega), up_ne (by omega)]; exact z10
      · rw [g 4 0 11 (by omega) (by omega), up_ne (by omega)]; exact z11
      · rw [g 2 0 5 (by omega) (by omega), up_ne (by omega)]; exact y2
      · rw [g 3 0 4 (by omega) (by omega), up_ne (by omega)]; exact y3
      · exact (g 0 _ 1 (by omega) (by omega)).trans (S.rB i hi).1
      · exact (g 1 _ q (by omega) (by omega)).trans (((S.rB i hi).2 q hq).trans (gB_cg (fun s _ _ => (up_ne (by omega)).symm) (by omega)))
      · exact (g 0 _ 1 (by omega) (by omega)).trans (S.rO i hi).1
      · exact (g 1 _ q (by omega) (by omega)).trans (((S.rO i hi).2 q hq).trans (gO_cg (fun s _ _ => (up_ne (by omega)).symm) (by omega)))
      · exact (g 0 9 1 (by omega) (by omega)).trans S.2.2.2.1
      · rw [g 1 9 q (by omega) (by omega), up_ne (by omega)]
        exact S.2.2.2.2.2.2 q hq
    refine w_removeSet hB hb1024 hO S3 (fun y y1 y2 => ?_)
    show Q (rd y 4 0 3) y
    rw [show rd y 4 0 3 = nI (r + sB w b nB) from y2.1.2.1.trans e1]
    refine h y (FrC.tr ⟨fun f k s m m2 => g f k s (by unfold SIn at m; omega) (by unfold scc at m2; omega), by rw [h3]; exact t1.2⟩ y1) y2
