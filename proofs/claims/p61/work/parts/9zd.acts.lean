/-! AN ACT OF THE LAW -/
theorem FX.ps0 {σ τ : Mem} (h : FX 0 σ τ) : Ps σ τ := ⟨fun f k s hp => h.1 f k s (by unfold pst SIn at hp; omega), h.2.1 1 (by decide)⟩
theorem l_does {t nC nx nB nO nP N : Nat} {a : Nat → Int32} {σ : Mem} (I : J t nC nx nB nO nP a σ) (g : Sg σ) (L : Lt9 σ N) (hN : N ≤ 60) (ht : t + N ≤ 512) {Q : Int32 → Mem → Prop} {E : String → Mem → Prop}
    (hR : ∀ (r : Int32) (τ : Mem), Ref r → J t nC nx nB nO nP a τ → Ps σ τ → Sg τ → Q r τ)
    (hD : ∀ (τ : Mem) (v : Int32) (t' nB' nO' nP' : Nat) (a' : Nat → Int32), t ≤ t' → t' ≤ t + N → An v → J t' (cN nC) ((nx + 1) % 8) nB' nO' nP' a' τ → Same τ (3 + nx) nB nO nP a → Ps σ τ → Sg τ → Q v τ) : wL_does 0 σ Q E := by
  refine ⟨N + 1, by omega, w_does4 hN (fun τ u P => ⟨fun _ => ?_, fun q => absurd (nI_pos' ?_) q⟩) N 0 σ (Nat.add_zero N) (FX.rf 0 σ) L ⟨g.wb, fun i hi => absurd hi (Nat.not_lt_zero i)⟩⟩
  · have I1 : J t nC nx nB nO nP a τ := I.cg fun f k s hf => u.1 f k s (by omega)
    refine l_run (nT := N) (b0 := rd τ 16 0) I1 (Txt.mk P.1 (fun i hi => ⟨rfl, ?_⟩)) hN ht (fun r y h1 h2 h3 h4 => hR r y h1 h2 (u.ps0.tr h3) h4) (fun y v t' nB' nO' nP' a' h1 h2 h3 h4 h5 h6 h7 => hD y v t' nB' nO' nP' a' h1 h2 h3 h4 h5 (u.ps0.tr h6) h7)
    obtain ⟨c, c1, c2, c3⟩ := P.2 i hi
    exact ⟨c, by omega, c3⟩
  · have := sumN_bnd (p := fun q => q + 1) (c := 60) N (fun q hq => by omega)
    omega
section AC
variable {t nC nx nB nO nP : Nat} {a : Nat → Int32} {σ : Mem} {Q : Int32 → Mem → Prop} {E : String → Mem → Prop}
/-- an order's id, or a number of at most 61 -/
theorem w_ordr {v : Nat} (I : J t nC nx nB nO nP a σ) (hv : v < 100) (h : ∀ i : Nat, i < 1000 → Q (nI i) σ) : wL_order (nI v) σ Q E := by
  obtain ⟨⟨-, -, ht⟩, F, G, S, -⟩ := I
  have hO := F.1.2.1
  unfold wL_order
  refine q_oc S ⟨fun _ => h v (by omega), fun c => ⟨fun _ => h v (by omega), fun _ => q_oc S ⟨?_, ?_⟩⟩⟩
  · intro q
    apply c
    rw [q]
    decide
  have hn : 0 < nO := by
    rcases Nat.eq_zero_or_pos nO with e | e
    · exact absurd (by rw [e]; decide) c
    · exact e
  rw [pk_rem (by omega) hn (by omega)]
  have hm := Nat.mod_lt v hn
  refine q_orderAt S hO hm ?_
  obtain ⟨⟨i, hi, e⟩, -⟩ := F.2.2.2.2.2.2.1 _ hm
  rw [e]
  exact h i (by omega)
theorem w_bale {v : Nat} (I : J t nC nx nB nO nP a σ) (hv : v < 100) (h : ∀ i : Nat, i < 1000 → Q (nI i) σ) : wL_bale (nI v) σ Q E := by
  obtain ⟨⟨-, -, ht⟩, F, G, S, -⟩ := I
  have hB := F.1.1
  unfold wL_bale
  refine q_bc S ⟨fun _ => h v (by omega), fun c => ⟨fun _ => h v (by omega), fun _ => q_bc S ⟨?_, ?_⟩⟩⟩
  · intro q
    apply c
    rw [q]
    decide
  have hn : 0 < nB := by
    rcases Nat.eq_zero_or_pos nB with e | e
    · exact absurd (by rw [e]; decide) c
    · exact e
  rw [pk_rem (by omega) hn (by omega)]
  have hm := Nat.mod_lt v hn
  refine q_baleAt S hB hm ?_
  obtain ⟨⟨i, hi, e⟩, -⟩ := F.2.2.2.2.2.1 _ hm
  rw [e]
  exact h i (by omega)
end AC
