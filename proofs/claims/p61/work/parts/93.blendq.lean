/-! WHAT IS ASKED OF BLENDS -/
/-- need and staple, in their bounds or not -/
theorem ask_or (x1 x2 : Int32) : (x1 < 1 ∨ 500 < x1) ∨ (¬ (x1 < 1 ∨ 500 < x1) ∧ (x2 < 10 ∨ 60 < x2)) ∨ ∃ nd sp : Nat, (1 ≤ nd ∧ nd ≤ 500 ∧ x1 = nI nd) ∧ 10 ≤ sp ∧ sp ≤ 60 ∧ x2 = nI sp := by
  rcases btw_or (x := x1) (lo := 1) (hi := 500) (l := 1) (h := 500) rfl rfl (by decide) (by decide) with hb | ⟨u, h1, h2, hx⟩
  · exact Or.inl hb
  · rcases btw_or (x := x2) (lo := 10) (hi := 60) (l := 10) (h := 60) rfl rfl (by decide) (by decide) with hb | ⟨w, h3, h4, hy⟩
    · exact Or.inr (Or.inl ⟨by rw [hx]; exact in_nb rfl rfl h1 h2 (by decide), hb⟩)
    · exact Or.inr (Or.inr ⟨u, w, ⟨h1, h2, hx⟩, h3, h4, hy⟩)
theorem w_can0 {x1 x2 : Int32} {σ : Mem} {Q : Int32 → Mem → Prop} {E : String → Mem → Prop} (hb : (x1 < 1 ∨ 500 < x1) ∨ (¬ (x1 < 1 ∨ 500 < x1) ∧ (x2 < 10 ∨ 60 < x2))) (h : Q 0 σ) : wX12_canBeBlend x1 x2 σ Q E := by
  rcases hb with hb | ⟨h1, hb⟩
  · exact w_btw0 hb ⟨fun _ => h, fun q => absurd rfl q⟩
  · exact w_btw1 h1 ⟨fun q => absurd q (by decide), fun _ => w_btw0 hb ⟨fun _ => h, fun q => absurd rfl q⟩⟩
theorem w_can1 {x1 x2 : Int32} {nd sp : Nat} {σ : Mem} {Q : Int32 → Mem → Prop} {E : String → Mem → Prop} (h1 : 1 ≤ nd ∧ nd ≤ 500 ∧ x1 = nI nd) (h2 : 10 ≤ sp ∧ sp ≤ 60 ∧ x2 = nI sp) (h : Q 1 σ) : wX12_canBeBlend x1 x2 σ Q E := by
  obtain ⟨a1, a2, rfl⟩ := h1
  obtain ⟨b1, b2, rfl⟩ := h2
  exact w_btw1 (in_nb rfl rfl a1 a2 (by decide)) ⟨fun q => absurd q (by decide), fun _ => w_btw1 (in_nb rfl rfl b1 b2 (by decide)) ⟨fun q => absurd q (by decide), fun _ => h⟩⟩
/-- bales of class and reference, by the invariant -/
theorem bal_cx {t nB nO nP : Nat} {a : Nat → Int32} {σ : Mem} (F : Fits t nB nO nP a) (S : Same σ 0 nB nO nP a) (Z : Zer σ) : ∃ w s z : Nat → Nat, BCx σ nB w s z ∧ BRx a nB w s z := by
  obtain ⟨w, s, z, hb⟩ := bal_wsp F
  refine ⟨w, s, z, ⟨F.1.1, ⟨S.2.1 0 (by decide), S.2.1 1 (by decide), S.2.1 2 (by decide), S.2.1 4 (by decide)⟩, fun q hq => ?_, fun q hq => (hb q hq).2.2.2, Z.1 0 (by decide), Z.1 1 (by decide), Z.1 2 (by decide)⟩, F.1.1, F.1.2.2.2.1, fun q hq => ⟨(hb q hq).1, (hb q hq).2.1, (hb q hq).2.2.1⟩, fun q hq => (hb q hq).2.2.2⟩
  obtain ⟨-, e1, e2, -, e3⟩ := S.2.2.2.2.1 q hq
  obtain ⟨h1, h2, h3, -⟩ := hb q hq
  refine ⟨e1.trans h1, e2.trans h2, e3.trans ?_⟩
  rw [h1, h3, pk_mul]
theorem BRx.on {a b : Nat → Int32} {n : Nat} {w s z : Nat → Nat} (h : b = a) (B : BRx a n w s z) : BRx b n w s z := by
  rw [h]
  exact B
