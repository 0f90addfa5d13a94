/-! undo -/
theorem w_takeBack {nx c nB nO nP : Nat} {a : Nat → Int32} {σ : Mem} {Q : Mem → Prop} {E : String → Mem → Prop} (h1 : rd σ 5 0 1 = nI nx) (hx : nx < 8) (h2 : rd σ 5 0 2 = nI (c + 1)) (hc : c < 8) (hB : nB ≤ 10) (hO : nO ≤ 8) (hP : nP ≤ 12) (S : Same σ (3 + (nx + 7) % 8) nB nO nP a)
    (h : ∀ τ : Mem, (∀ f k s : Nat, ¬ SIn 0 f k → ¬ (f = 5 ∧ k = 0 ∧ (s = 1 ∨ s = 2)) → rd τ f k s = rd σ f k s) → τ.2 = σ.2 → rd τ 5 0 1 = nI ((nx + 7) % 8) → rd τ 5 0 2 = nI c → Same τ 0 nB nO nP a → Q τ) : wX4_takeBack σ Q E := by
  have fin : ∀ (y : Nat) (v1 v2 : Int32), y = (nx + 7) % 8 → v1 = nI y → v2 = nI c → ∀ s2 : Mem, s2 = wr (wr σ 5 0 1 v1) 5 0 2 v2 → vp_in (rd s2 5 0 1) 8 ∧ wX10_copyFrom 0 (3 + (rd s2 5 0 1).toNatClampNeg) s2 (fun s => Q s) E := by
    intro y v1 v2 hy e1 e2 s2 hs2
    have k1 : rd s2 5 0 1 = nI y := by rw [hs2, rd_wr, if_neg (by omega), rd_wr, if_pos ⟨rfl, rfl, rfl⟩, e1]
    have k2 : rd s2 5 0 2 = nI c := by rw [hs2, rd_wr, if_pos ⟨rfl, rfl, rfl⟩, e2]
    rw [k1, nI_clamp (by omega)]
    rw [← hy] at S
    refine ⟨vp_in_nI (by omega) (by decide), w_stk (by decide) (by omega) (by omega) hB hO hP (Same.on (σ := σ) (fun f k' s hh => ?_) S) (fun τ u1 u2 u3 => h τ (fun f k s n1 n2 => ?_) ?_ ?_ ?_ u3)⟩
    · unfold SIn at hh
      rw [hs2, rd_wr, if_neg (by omega), rd_wr, if_neg (by omega)]
    · rw [u1 f k s n1, hs2, rd_wr, if_neg (by omega), rd_wr, if_neg (by omega)]
    · rw [u2, hs2]
      rfl
    · rw [u1 5 0 1 (by unfold SIn; omega), k1, hy]
    · rw [u1 5 0 2 (by unfold SIn; omega), k2]
  refine ⟨fun _ => ⟨fun q s1 hs1 s2 hs2 => ?_, fun q s1 hs1 s2 hs2 => ?_⟩, fun q => absurd (h2.symm.trans q) (nI_ne0 (by omega) (by omega))⟩
  · rw [h1] at q
    cases nx with
    | succ n => exact absurd q (nI_nle (by omega) (by omega))
    | zero =>
      subst hs1
      exact fin 7 7 _ (by decide) rfl (by rw [rd_wr, if_neg (by omega), h2, nI_pred]) s2 hs2
  · rw [h1] at q
    cases nx with
    | zero => exact absurd (show nI 0 ≤ 0 by decide) q
    | succ n =>
      subst hs1
      exact fin n _ _ (by omega) (by rw [h1, nI_pred]) (by rw [rd_wr, if_neg (by omega), h2, nI_pred]) s2 hs2
