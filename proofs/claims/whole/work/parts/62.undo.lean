/-! undo -/
theorem w_takeBack {nx c nB nO nP : Nat} {a : Nat → Int32} {σ : Mem} {Q : Mem → Prop} {E : String → Mem → Prop} (h1 : rd σ 5 0 1 = nI nx) (hx : nx < 8) (h2 : rd σ 5 0 2 = nI (c + 1)) (hc : c < 8) (hB : nB ≤ 10) (hO : nO ≤ 8) (hP : nP ≤ 12) (S : Same σ (3 + (nx + 7) % 8) nB nO nP a)
    (h : ∀ τ : Mem, (∀ f k s : Nat, ¬ SIn 0 f k → ¬ (f = 5 ∧ k = 0 ∧ (s = 1 ∨ s = 2)) → rd τ f k s = rd σ f k s) → τ.2 = σ.2 → rd τ 5 0 1 = nI ((nx + 7) % 8) → rd τ 5 0 2 = nI c → Same τ 0 nB nO nP a → Q τ) : wX4_takeBack σ Q E := by
  have fin : ∀ (y : Nat) (v1 v2 : Int32), y = (nx + 7) % 8 → v1 = nI y → v2 = nI c → ∀ s2 : Mem, s2 = wr (wr σ 5 0 1 v1) 5 0 2 v2 → vp_in (rd s2 5 0 1) 8 ∧ wX10_copyFrom 0 (3 + (rd s2 5 0 1).toNatClampNeg) s2 (fun s => Q s) E := by
    intro y v1 v2 hy e1 e2 s2 hs2
    have k1 : rd s2 5 0 1 = nI y := by rw [hs2, rd_wr, if_neg (by omega), rd_wr, if_pos ⟨rfl, rfl, rfl⟩, e1]
    have k2 : rd s2 5 0 2 = nI c := by rw [hs2, rd_wr, if_pos ⟨rfl, rfl, rfl⟩, e2]
    rw [k1, nI_clamp (by omega)]
    rw [← hy] at S
    refine ⟨vp_in_nI (by omega) (by decide), w_stk (by decide) (by omega) (by omega) hB hO hP (Same.on (σ := σ) (fun f k' s hh => ?_) S) (fun τ u1 u2 u3 => h τ (fun f k s n1 n2 => ?_) ?_ ?_ ?_ u3)⟩
    · unfold SIn at hh
      rw [hs2, rd_wr, if_neg (by omega), rd_wr, if_neg (by omega)]
    · rw [u1 f k s n1, hs2, rd_wr, if_neg (by omega), rd_wr, if_neg (by omega)]
    · rw [u2, hs2]
      rfl
    · rw [u1 5 0 1 (by unfold SIn; omega), k1, hy]
    · rw [u1 5 0 2 (by unfold SIn; omega), k2]
  refine ⟨fun _ => ⟨fun q s1 hs1 s2 hs2 => ?_, fun q s1 hs1 s2 hs2 => ?_⟩, fun q => absurd (h2.symm.trans q) (nI_ne0 (by omega) (by omega))⟩
  · rw [h1] at q
    cases nx with
    | succ n => exact absurd q (nI_nle (by omega) (by omega))
    | zero =>
      subst hs1
      exact fin 7 7 _ (by decide) rfl (by rw [rd_wr, if_neg (by omega), h2, nI_pred]) s2 hs2
  · rw [h1] at q
    cases nx with
    | zero => exact absurd (show nI 0 ≤ 0 by decide) q
    | succ n =>
      subst hs1
      exact fin n _ _ (by omega) (by rw [h1, nI_pred]) (by rw [rd_wr, if_neg (by omega), h2, nI_pred]) s2 hs2
theorem pC_55 {j : Nat} {σ : Mem} (I : Inv j σ) : wC_55 σ (Inv (j + 1)) := by
  have I0 := I
  obtain ⟨t, nT, nL, nC, nx, hj, hN, h2, h3, ⟨h4, h5, h6, h7⟩, h8, h9, h10, h11, hZ⟩ := I
  unfold wC_55 wL_undo wX12_undo wX13_undo
  cases nC with
  | zero =>
    exact ⟨fun q => absurd (show rd σ 5 0 2 = 0 from h5) q, fun _ => ⟨rfl, fun q => absurd (show rd σ 15 0 6 = 0 from h6) q, fun _ => w_thr1 ⟨fun q => absurd q (by decide), fun _ => ⟨rfl, fun q => absurd q (by decide), I0.to (kp7 σ 1)⟩⟩⟩⟩
  | succ c =>
    obtain ⟨nB, nO, nP, F, S⟩ := h7 c (by omega)
    rw [show 3 + (nx + 8 - (c + 1) + c) % 8 = 3 + (nx + 7) % 8 by omega] at S
    refine ⟨fun _ => ?_, fun q => absurd (h5.symm.trans q) (nI_ne0 (by omega) (by omega))⟩
    refine w_takeBack h4 hN.2.2.2 h5 (by omega) F.1.1 F.1.2.1 F.1.2.2.1 S (fun τ u1 u2 k1 k2 u3 => ?_)
    have k6 : rd τ 15 0 6 = nI (c + 1) := by
      rw [u1 15 0 6 (by unfold SIn; omega) (by omega)]
      exact h6
    refine ⟨fun _ => w_thr0 ⟨fun _ s3 hs3 => ?_, fun q => absurd rfl q⟩, fun q => absurd (k6.symm.trans q) (nI_ne0 (by omega) (by omega))⟩
    have el : ∀ (x : Int64) (f k s : Nat), rd (wr (wrL τ x) 15 0 7 0) f k s = if f = 15 ∧ k = 0 ∧ s = 7 then 0 else rd τ f k s := fun _ _ _ _ => rfl
    have k3 : rd s3 15 0 6 = nI c := by rw [hs3, rd_wr, if_pos ⟨rfl, rfl, rfl⟩, el, if_neg (by omega), k6, nI_pred]
    refine w_copies (A := 90 * c) (B := 0) (by rw [k3]; exact pk_mul 90 c) rfl (show 90 * c + 90 ≤ 720 by omega) (by decide) (by decide) (by decide) (fun e => absurd e (by decide)) (fun s5 hw => ?_)
    have g : ∀ f k s : Nat, ¬ SIn 0 f k → ¬ (f = 5 ∧ k = 0 ∧ (s = 1 ∨ s = 2)) → ¬ (f = 15 ∧ k = 0 ∧ (s = 7 ∨ s = 6)) → ¬ (f = 10 ∧ k = 8) → rd s5 f k s = rd σ f k s := by
      intro f k s n1 n2 n3 n4
      rw [hw.1, if_neg (by omega), hs3, rd_wr, if_neg (by omega), el, if_neg (by omega)]
      exact u1 f k s n1 n2
    have gs : ∀ f k s : Nat, SIn 0 f k → rd s5 f k s = rd τ f k s := by
      intro f k s n1
      unfold SIn at n1
      rw [hw.1, if_neg (by omega), hs3, rd_wr, if_neg (by omega), el, if_neg (by omega)]
    have g8 : ∀ i : Nat, i < 90 → rd s5 10 8 i = rd σ 10 11 (90 * c + i) := by
      intro i hi
      rw [hw.1, if_pos ⟨rfl, rfl, by omega, by omega⟩, hs3, rd_wr, if_neg (by omega), el, if_neg (by omega), u1 10 11 _ (by unfold SIn; omega) (by omega)]
      congr 1
    have g10 : rd s5 10 10 = rd σ 10 10 := funext fun s => g 10 10 s (by unfold SIn; omega) (by omega) (by omega) (by omega)
    have g2 : s5.2.2.1 = σ.2.2.1 := by
      rw [hw.2, hs3, wr_2]
      show τ.2.2.1 = _
      rw [u2]
    have gr : ∀ k : Nat, k ≠ 0 → ∀ f k' s : Nat, SIn k f k' → rd s5 f k' s = rd σ f k' s := by
      intro k hk f k' s hh
      unfold SIn at hh
      exact g f k' s (by unfold SIn; omega) (by omega) (by omega) (by omega)
    have g56 : rd s5 15 0 6 = nI c := by rw [hw.1, if_neg (by omega), k3]
    refine ⟨?_, fun _ => ?_, t, nT, nL, c, (nx + 7) % 8, by omega, ⟨hN.1, hN.2.1, by omega, by omega⟩, ?_, ⟨?_, ?_⟩, ⟨?_, ?_, g56, fun i hi => ?_⟩, ?_, ?_, ⟨?_, ?_⟩, ⟨?_, ?_⟩, fun k hk => ?_, fun m hm => ?_⟩
    · rw [hw.1, if_neg (by omega), hs3, rd_wr, if_neg (by omega), el, if_pos ⟨rfl, rfl, rfl⟩]
    · have e1 : rdL s5 = (rd τ 5 0 2).toInt64 := by
        show s5.2.2.2.1 0 = _
        rw [hw.2, hs3]
        rfl
      rw [e1, g56, k2]
    · exact StOk.on gs g8 ⟨nB, nO, nP, F, u3⟩
    · rw [g 14 0 3 (by unfold SIn; omega) (by omega) (by omega) (by omega), g 15 0 12 (by unfold SIn; omega) (by omega) (by omega) (by omega)]
      exact h3.1
    · rw [g 15 0 12 (by unfold SIn; omega) (by omega) (by omega) (by omega)]
      exact h3.2.imp id fun z => ⟨z.1, StOk.on (gr 2 (by decide)) (fun i _ => by rw [g10]) z.2⟩
    · rw [hw.1, if_neg (by omega), hs3, rd_wr, if_neg (by omega), el, if_neg (by omega)]
      exact k1
    · rw [hw.1, if_neg (by omega), hs3, rd_wr, if_neg (by omega), el, if_neg (by omega)]
      exact k2
    · have q := h7 i (by omega)
      rw [show 3 + (nx + 8 - (c + 1) + i) % 8 = 3 + ((nx + 7) % 8 + 8 - c + i) % 8 by omega] at q
      exact StOk.on (gr _ (by omega)) (fun q _ => g 10 11 _ (by unfold SIn; omega) (by omega) (by omega) (by omega)) q
    · rw [g 14 0 11 (by unfold SIn; omega) (by omega) (by omega) (by omega), g 15 0 8 (by unfold SIn; omega) (by omega) (by omega) (by omega)]
      exact h8
    · rw [g 14 0 12 (by unfold SIn; omega) (by omega) (by omega) (by omega), g 15 0 9 (by unfold SIn; omega) (by omega) (by omega) (by omega)]
      exact h9
    · exact h10.1.on (fun s => g 13 1 s (by unfold SIn; omega) (by omega) (by omega) (by omega)) (fun s => g 16 1 s (by unfold SIn; omega) (by omega) (by omega) (by omega)) g2 (fun i => g 10 14 i (by unfold SIn; omega) (by omega) (by omega) (by omega))
    · rw [g 15 0 14 (by unfold SIn; omega) (by omega) (by omega) (by omega)]
      exact h10.2
    · exact h11.1.on (fun s => g 13 0 s (by unfold SIn; omega) (by omega) (by omega) (by omega)) (fun s => g 16 0 s (by unfold SIn; omega) (by omega) (by omega) (by omega)) g2 (fun i => g 10 15 i (by unfold SIn; omega) (by omega) (by omega) (by omega))
    · rw [g 15 0 17 (by unfold SIn; omega) (by omega) (by omega) (by omega)]
      exact h11.2
    · exact (g 10 k 0 (by unfold SIn; omega) (by omega) (by omega) (by omega)).trans (hZ.1 k hk)
    · exact (g 10 12 m (by unfold SIn; omega) (by omega) (by omega) (by omega)).trans (hZ.2 m hm)
