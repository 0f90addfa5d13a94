/-! A MILL IS WELL -/
section WE
variable {t nC nx nB nO nP : Nat} {a : Nat → Int32} {σ : Mem} {Q : Int32 → Mem → Prop} {E : String → Mem → Prop}
theorem q_bc (S : Same σ 0 nB nO nP a) (h : Q (nI nB) σ) : wX12_baleCount σ Q E := by
  show Q (rd σ 0 0 1) σ
  rw [show rd σ 0 0 1 = nI nB from S.2.1 0 (by decide)]
  exact h
theorem q_oc (S : Same σ 0 nB nO nP a) (h : Q (nI nO) σ) : wX12_orderCount σ Q E := by
  show Q (rd σ 0 5 1) σ
  rw [show rd σ 0 5 1 = nI nO from S.2.2.1 0 (by decide)]
  exact h
theorem q_pc (S : Same σ 0 nB nO nP a) (h : Q (nI nP) σ) : wX12_pieceCount σ Q E := by
  show Q (rd σ 0 9 1) σ
  rw [show rd σ 0 9 1 = nI nP from S.2.2.2.1]
  exact h
theorem q_rov (S : Same σ 0 nB nO nP a) {r : Nat} (hr : a 1 = nI r) (h : Q (nI r) σ) : wX12_roving σ Q E := by
  show Q (rd σ 4 0 3) σ
  rw [show rd σ 4 0 3 = nI r from S.1.2.1.trans hr]
  exact h
theorem q_mac (S : Same σ 0 nB nO nP a) {m : Nat} (hr : a 3 = nI m) (h : Q (nI m) σ) : wX12_machines σ Q E := by
  show Q (rd σ 4 0 4) σ
  rw [show rd σ 4 0 4 = nI m from S.1.2.2.2.1.trans hr]
  exact h
theorem q_co (S : Same σ 0 nB nO nP a) (h : Q (a 0) σ) : wX12_coins σ Q E := by
  show Q (rd σ 4 0 6) σ
  rw [show rd σ 4 0 6 = a 0 from S.1.1]
  exact h
theorem w_well {nd sp : Nat} {x1 x2 : Int32} (I : J t nC nx nB nO nP a σ) (h1 : 1 ≤ nd ∧ nd ≤ 500 ∧ x1 = nI nd) (h2 : 10 ≤ sp ∧ sp ≤ 60 ∧ x2 = nI sp) (h : ∀ τ : Mem, FrS σ τ → Q 1 τ) : wL_isWell x1 x2 σ Q E := by
  obtain ⟨⟨-, -, ht⟩, F, G, S, -, Z⟩ := I
  have hB := F.1.1
  have hO := F.1.2.1
  have hP := F.1.2.2.1
  obtain ⟨m, m1, m2, em⟩ := F.2.1
  obtain ⟨r, hr2, hr⟩ := F.2.2.1
  obtain ⟨co, co1, co2⟩ := G.1
  have hsq := sq512 ht
  obtain ⟨p, hp, hs, hsum⟩ := F.2.2.2.2.2.2.2.1
  have p1 : ∀ q : Nat, q < nP → 1 ≤ p q := fun q hq => (hp q hq).1
  have p2 : ∀ q : Nat, q < nP → a (78 + q) = nI (p q) := fun q hq => (hp q hq).2
  have p3 : sumN p nP ≤ 20480 := by omega
  obtain ⟨w, s, z, hb⟩ := bal_wsp F
  obtain ⟨l, tw, hlw⟩ := ord_lwb F
  have hsm : sumN (fun q => l q * tw q) nO ≤ nO * 360 := sumN_bnd nO (fun q hq => Nat.mul_le_mul (hlw q hq).2.2.1.2 (hlw q hq).2.2.2.2)
  have hsm2 : sumN (fun q => l q * tw q) nO ≤ 2880 := by omega
  have hmx : mxN (fun q => l q * tw q) nO ≤ 360 := mxN_le nO (fun q hq => Nat.mul_le_mul (hlw q hq).2.2.1.2 (hlw q hq).2.2.2.2)
  unfold wL_isWell
  refine q_bc S (q_oc S (q_pc S ⟨fun q => ?_, fun _ => ⟨fun q => ?_, fun _ => ⟨fun q => ?_, fun _ => q_rov S hr ⟨fun q => ?_, fun _ => q_rov S hr ⟨fun q => ?_, fun _ => q_co S ?_⟩⟩⟩⟩⟩))
  · rw [show (10 : Int32) = nI 10 from rfl, nI_ltI (by decide) (by omega)] at q
    omega
  · rw [show (8 : Int32) = nI 8 from rfl, nI_ltI (by decide) (by omega)] at q
    omega
  · rw [show (12 : Int32) = nI 12 from rfl, nI_ltI (by decide) (by omega)] at q
    omega
  · exact absurd q (nI_pos (by omega))
  · rw [show (999 : Int32) = nI 999 from rfl, nI_ltI (by decide) (by omega)] at q
    omega
  rw [co2]
  refine ⟨fun _ => ⟨nB + 1, by omega, w_wellB ht F G S ?_ nB 0 (Nat.add_zero nB)⟩, fun q => absurd (nI_pos' (by omega)) q⟩
  refine ⟨nO + 1, by omega, w_wellO ht F G S hlw ?_ nO 0 (Nat.add_zero nO)⟩
  refine q_times F S Z hlw ⟨m1, m2⟩ em (S.1.2.2.2.1.trans em) (fun c τ u0 c1 c2 c3 c4 => ⟨fun q => absurd rfl q, fun _ => ⟨fun q => ?_, fun _ => ?_⟩⟩)
  · rw [nI_ltI (by omega) (by omega)] at q
    omega
  have Sτ : Same τ 0 nB nO nP a := u0.same (by decide) S
  have Zτ := u0.zer Z
  refine q_mac Sτ em ⟨fun q => ?_, fun _ => ⟨fun q => ?_, fun _ => q_mac Sτ em ?_⟩⟩
  · have h3 : c * m ≤ 2880 * 3 := Nat.mul_le_mul c1 m2
    rw [pk_mul, nI_ltI (by omega) (by omega)] at q
    rw [Nat.mul_comm] at q
    omega
  · rw [nI_ltI (by omega) (by omega)] at q
    omega
  refine ⟨fun _ => ?_, fun q1 => ⟨fun q => ?_, fun _ => ?_⟩⟩
  rotate_left
  · have m11 : m = 1 := (nI_eq (by omega) (by decide)).mp q1
    refine absurd (congrArg nI ?_) q
    subst m11
    omega
  all_goals
    refine q_kinds F Sτ (fun k hk => ⟨fun _ => ⟨nP + 1, by omega, w_wellP F Sτ hp (by omega) ?_ nP 0 (Nat.add_zero nP)⟩, fun q => absurd ((nI_leI (by omega) (by omega)).mpr hk) q⟩)
    refine q_bv1 h1 h2 (bc_of F Sτ Zτ hb) (fun τ1 u1 => ?_)
    have S1 : Same τ1 0 nB nO nP a := u1.same (by decide) Sτ
    refine q_cost1 F S1 p1 p2 p3 (fun τ2 u2 => q_cost2 F (u2.same (by decide) S1) p1 p2 p3 (fun τ3 u3 => ⟨fun q => absurd rfl q, fun _ => ?_⟩))
    have v3 := ((u0.tr u1).tr u2).tr u3
    have S3 : Same τ3 0 nB nO nP a := v3.same (by decide) S
    have Z3 := v3.zer Z
    refine ⟨fun _ => ?_, fun c0 => ?_⟩
    · refine q_bv2 h1 h2 (bc_of F S3 Z3 hb) (fun τ4 u4 => ⟨fun q => absurd rfl q, fun _ => ?_⟩)
      have v4 := v3.tr u4
      have S4 : Same τ4 0 nB nO nP a := v4.same (by decide) S
      refine q_sum F S4 p2 ⟨fun q => absurd rfl q, fun _ => q_acc S4 hsum ⟨fun q => absurd rfl q, fun _ => q_co S4 (q_coins F S4 ⟨fun q => absurd rfl q, fun _ => ?_⟩)⟩⟩
      exact q_cons F S4 (v4.zer Z) hb hlw ⟨m1, m2⟩ em p1 p2 p3 hsum (fun τ5 u5 => ⟨fun q => absurd q (by decide), fun _ => h τ5 (v4.tr u5)⟩)
    · refine q_cost1 F S3 p1 p2 p3 (fun τ6 u6 => ⟨fun q => ?_, fun _ => ?_⟩)
      · rw [show (1 : Int32) = nI 1 from rfl, nI_ltI (by decide) (by omega)] at c0
        rw [cost0 (by omega)] at q
        exact absurd rfl q
      have v6 := v3.tr u6
      have S6 : Same τ6 0 nB nO nP a := v6.same (by decide) S
      refine q_bv2 h1 h2 (bc_of F S6 (v6.zer Z) hb) (fun τ4 u4 => ⟨fun q => absurd rfl q, fun _ => ?_⟩)
      have v4 := v6.tr u4
      have S4 : Same τ4 0 nB nO nP a := v4.same (by decide) S
      refine q_sum F S4 p2 ⟨fun q => absurd rfl q, fun _ => q_acc S4 hsum ⟨fun q => absurd rfl q, fun _ => q_co S4 (q_coins F S4 ⟨fun q => absurd rfl q, fun _ => ?_⟩)⟩⟩
      exact q_cons F S4 (v4.zer Z) hb hlw ⟨m1, m2⟩ em p1 p2 p3 hsum (fun τ5 u5 => ⟨fun q => absurd q (by decide), fun _ => h τ5 (v4.tr u5)⟩)
end WE
