/-! outputAt -/
theorem ch_nI {c : Nat} (h : c < 128) : ((nI c).toUInt32 % 65536).toInt32 = nI c := by
  have e : ∀ c : Nat, c < 128 → ((nI c).toUInt32 % 65536).toInt32 = nI c := by decide +kernel
  exact e c h
theorem ch_and {c : Nat} (h : c < 128) : ((nI c &&& 255).toUInt32 % 65536).toInt32 = nI c := by
  have e : ∀ c : Nat, c < 128 → ((nI c &&& 255).toUInt32 % 65536).toInt32 = nI c := by decide +kernel
  exact e c h
theorem ch_ok {c : Nat} (h : c < 128) : narrow .char (.int (nI c)) = .int (nI c) := (pk_charN (by omega)).1
theorem pC_50 {j : Nat} {σ : Mem} (I : Inv j σ) (a1 : Int32) : wC_50 a1 σ (Inv (j + 1)) := by
  have I0 := I
  obtain ⟨t, nT, nL, nC, nx, hj, hN, h2, h3, h4, h8, h9, ⟨⟨x1, x2, x3, x4, x5, -⟩, x6⟩, h11⟩ := I
  unfold wC_50 wL_outputAt wX12_outputAt wX13_outputAt
  have hnL := hN.2.1
  have bad : a1 < 0 ∨ nI nL ≤ a1 → wX13_isIn a1 0 (rd σ 15 0 14 - 1) σ (fun (r1 : Int32) (s2 : Mem) => ((¬ r1 = 0 → wX13_isThrown 0 1 s2 (fun (r3 : Int32) (s4 : Mem) => ((r3 = 0 → vp_in a1 (iaLen 14) ∧ narrow .char (.int (((rd s4 10 14 a1.toNatClampNeg).toUInt32 % 65536).toInt32)) = .int (((rd s4 10 14 a1.toNatClampNeg).toUInt32 % 65536).toInt32) ∧ wX13_thrown s4 (fun (t : Int32) (s2 : Mem) => t = 1 ∧ ((1 : Int32) = 0 → rdL s2 = (((rd s4 10 14 a1.toNatClampNeg).toUInt32 % 65536).toInt32).toInt64) ∧ Inv (j + 1) s2) (fun _ _ => False)) ∧ (¬ r3 = 0 → narrow .char (.int 0) = .int 0 ∧ wX13_thrown s4 (fun (t : Int32) (s2 : Mem) => t = 1 ∧ ((1 : Int32) = 0 → rdL s2 = (0 : Int32).toInt64) ∧ Inv (j + 1) s2) (fun _ _ => False)))) (fun _ _ => False)) ∧ (r1 = 0 → wX13_isThrown 1 1 s2 (fun (r5 : Int32) (s6 : Mem) => ((r5 = 0 → vp_in a1 (iaLen 14) ∧ narrow .char (.int (((rd s6 10 14 a1.toNatClampNeg).toUInt32 % 65536).toInt32)) = .int (((rd s6 10 14 a1.toNatClampNeg).toUInt32 % 65536).toInt32) ∧ wX13_thrown s6 (fun (t : Int32) (s2 : Mem) => t = 1 ∧ ((1 : Int32) = 0 → rdL s2 = (((rd s6 10 14 a1.toNatClampNeg).toUInt32 % 65536).toInt32).toInt64) ∧ Inv (j + 1) s2) (fun _ _ => False)) ∧ (¬ r5 = 0 → narrow .char (.int 0) = .int 0 ∧ wX13_thrown s6 (fun (t : Int32) (s2 : Mem) => t = 1 ∧ ((1 : Int32) = 0 → rdL s2 = (0 : Int32).toInt64) ∧ Inv (j + 1) s2) (fun _ _ => False)))) (fun _ _ => False)))) (fun _ _ => False) := fun hb =>
    w_isIn (n := nL) (by omega) x6 (fun i' hi' ha' => absurd hb (no_ix hi' (by omega) ha')) (fun _ => ⟨fun q => absurd rfl q, fun _ => w_thr1 ⟨fun q => absurd q (by decide), fun _ => ⟨by decide, rfl, fun q => absurd q (by decide), I0.to (kp7 σ 1)⟩⟩⟩)
  refine ⟨fun q => ⟨rfl, bad (Or.inl q)⟩, fun q => ⟨rfl, ?_⟩⟩
  refine ⟨rfl, fun r => ?_, fun r => ⟨rfl, bad (Or.inr ?_)⟩⟩
  · rw [x2] at r
    obtain ⟨i, hi, rfl⟩ := nI_of q
    have hi2 : i < nL := (nI_ltI hi (by omega)).mp r
    obtain ⟨e1, c, hc, e2⟩ := x5 i hi2
    intro v2 hv2 v4 hv4
    rw [x1] at hv2
    subst hv2
    refine ⟨q, ?_, rfl, fun z => absurd rfl z, fun _ => ?_⟩
    · rw [hv4, x2, show (nI (σ.2.2.1 1)) >>> ((0 : Int32) &&& 31) = nI (σ.2.2.1 1) from by
        rw [show ((0 : Int32) &&& 31) = 0 from by decide]
        exact Int32.shiftRight_zero]
      split
      · exact nI_lt (by omega) (by omega)
      · exact nI_lt hi2 (by omega)
    · rw [nI_clamp hi, e1, e2, ch_and hc]
      refine ⟨vp_in_nI (by omega) (by omega), ch_ok hc, rfl, ch_ok hc, rfl, ch_ok hc, ?_⟩
      refine w_isIn (n := nL) (by omega) x6 (fun i' _ _ => ?_) (fun hb => absurd hb (no_ix hi2 (by omega) rfl))
      refine ⟨fun _ => w_thr0 ⟨fun _ => ?_, fun z => absurd rfl z⟩, fun z => absurd z (by decide)⟩
      have e3 : rd (wr (wrL σ (nI c).toInt64) 15 0 7 0) 10 14 i = nI c := e2
      rw [e3, ch_nI hc]
      exact ⟨vp_in_nI (show i < 90 by omega) (by decide), ch_ok hc, rfl, fun _ => rfl, I0.to (kpThr σ _ 0)⟩
  · rw [x2] at r
    obtain ⟨i, hi, rfl⟩ := nI_of q
    exact nI_le (by
      rcases Nat.lt_or_ge i nL with c | c
      · exact absurd (nI_lt c (by omega)) r
      · exact c) hi
