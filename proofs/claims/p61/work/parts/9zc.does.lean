/-! A TEXT TYPED AND RUN -/
/-- the mill and its empty buffer are as they were -/
def Kj (σ τ : Mem) : Prop := (∀ f k s : Nat, (f ≤ 12 ∨ f = 14 ∨ f = 19 ∨ ((f = 13 ∨ f = 16) ∧ k < 2)) → rd τ f k s = rd σ f k s) ∧ ∀ k : Nat, k < 2 → τ.2.2.1 k = σ.2.2.1 k
theorem Kj.rf (σ : Mem) : Kj σ σ := ⟨fun _ _ _ _ => rfl, fun _ _ => rfl⟩
theorem Kj.tr {σ τ u : Mem} (h1 : Kj σ τ) (h2 : Kj τ u) : Kj σ u := ⟨fun f k s h => (h2.1 f k s h).trans (h1.1 f k s h), fun k h => (h2.2 k h).trans (h1.2 k h)⟩
theorem J.cg {t nC nx nB nO nP : Nat} {a : Nat → Int32} {σ τ : Mem} (h : ∀ f k s : Nat, f ≤ 12 → rd τ f k s = rd σ f k s) (I : J t nC nx nB nO nP a σ) : J t nC nx nB nO nP a τ := by
  obtain ⟨h1, F, G, S, ⟨h4, h5⟩, Z⟩ := I
  exact ⟨h1, F, G, S.on fun f k s hh => h f k s (by unfold SIn at hh; omega), ⟨(h 5 0 1 (by omega)).trans h4, (h 5 0 2 (by omega)).trans h5⟩, fun k hk => (h 10 k 0 (by omega)).trans (Z.1 k hk), fun m hm => (h 10 12 m (by omega)).trans (Z.2 m hm)⟩
theorem Kj.j {t nC nx nB nO nP : Nat} {a : Nat → Int32} {σ τ : Mem} (h : Kj σ τ) (I : J t nC nx nB nO nP a σ) : J t nC nx nB nO nP a τ := I.cg fun f k s hf => h.1 f k s (Or.inl hf)
theorem Kj.ps {σ τ : Mem} (h : Kj σ τ) : Ps σ τ := ⟨fun f k s hp => h.1 f k s (by unfold pst SIn at hp; omega), h.2 1 (by decide)⟩
theorem Kj.sg {σ τ : Mem} (h : Kj σ τ) (g : Sg σ) : Sg τ := Txt.on2 (fun s => h.1 13 0 s (by omega)) (fun s => h.1 16 0 s (by omega)) (h.2 0 (by decide)) (fun _ => rfl) g
theorem FX.kj {σ τ : Mem} (h : FX 2 σ τ) : Kj σ τ := ⟨fun f k s hf => h.1 f k s (by omega), fun k hk => h.2.1 k (by omega)⟩
theorem NewB.kj {σ τ : Mem} (h : NewB σ τ) : Kj σ τ := ⟨fun f k s hf => h.1 f k s (by omega), fun k hk => h.2.2.2.2 k (by omega)⟩
theorem NewT.kj {σ τ : Mem} {k n : Nat} (h : NewT σ τ k n) : Kj σ τ := ⟨fun f k s hf => h.1 f k s (by omega) (by omega), fun k _ => by rw [h.2.2.2.2.2]⟩
theorem NewB.pr {σ τ : Mem} (h : NewB σ τ) : Pr τ 2 0 := ⟨⟨h.2.1 1, h.2.1 3, Nat.zero_le _, Or.inl h.2.2.2.1, fun i _ => by rw [h.2.2.1 i]; decide⟩, fun i hi => absurd hi (Nat.not_lt_zero i)⟩
theorem Pr.ts {σ : Mem} {n : Nat} (P : Pr σ 2 n) : TsOk σ 2 n := ⟨P.1.1, P.1.2.1, P.1.2.2.1, by have := P.1.2.2.2.1; omega, P.1.2.2.2.2⟩
theorem w_typ {c n : Nat} {x : Int32} {σ : Mem} {Q : Int32 → Mem → Prop} {E : String → Mem → Prop} (hc : 32 ≤ c ∧ c ≤ 126) (hx : x = nI c) (hn : n < 60) (P : Pr σ 0 n) (h : ∀ τ : Mem, FX 0 σ τ → Pr τ 0 (n + 1) → Q (nI (n + 1)) τ) : wX12_type x σ Q E := by
  subst hx
  refine ⟨fun q => ?_, fun _ => ⟨fun _ => ?_, fun q => absurd ?_ q⟩⟩
  · rw [show (32 : Int32) = nI 32 from rfl, nI_ltI (by omega) (by omega)] at q
    omega
  rotate_left
  · rw [show (126 : Int32) = nI 126 from rfl, nI_leI (by omega) (by omega)]
    omega
  unfold wX8_isFull
  refine w_len P.1 ⟨rfl, ?_⟩
  rw [show (60 : Int32) = nI 60 from rfl, nI_ltI (by omega) (by omega)]
  refine ⟨fun _ => ⟨fun _ => ?_, fun z => absurd rfl z⟩, fun cf => absurd hn cf⟩
  unfold wX8_append
  refine w_appC P.1 rfl (by omega) (by omega) (fun τ t1 t2 t3 t4 => w_len t2 ⟨rfl, h τ t1 ⟨t2, fun i hi => ?_⟩⟩)
  by_cases e : i < n
  · obtain ⟨y, y1, y2, y3⟩ := P.2 i e
    exact ⟨y, y1, y2, (t3 i e).trans y3⟩
  · obtain rfl : i = n := by omega
    exact ⟨c, hc.1, hc.2, t4⟩
/-- a text of N letters that can be typed -/
def Lt9 (σ : Mem) (N : Nat) : Prop := ¬ rd σ 20 0 0 = 0 ∧ rd σ 20 0 1 = 0 ∧ σ.2.2.2.2 0 = N ∧ ∀ j : Nat, j < N → ∃ c : Nat, 32 ≤ c ∧ c ≤ 126 ∧ rd σ 21 0 j = nI c
theorem NewT.lt {σ τ : Mem} {n : Nat} (h : NewT σ τ 2 n) (P : Pr σ 2 n) : Lt9 τ n := by
  obtain ⟨h1, h2, h3, h4, h5, h6⟩ := h
  refine ⟨h2, h3, h4, fun j hj => ?_⟩
  obtain ⟨c, c1, c2, c3⟩ := P.2 j hj
  exact ⟨c, c1, c2, (h5 j hj).trans c3⟩
theorem Lt9.fx {σ τ : Mem} {N : Nat} (h : FX 0 σ τ) (L : Lt9 σ N) : Lt9 τ N := by
  obtain ⟨h1, h2, h3, h4⟩ := L
  refine ⟨by rw [h.1 20 0 0 (by omega)]; exact h1, by rw [h.1 20 0 1 (by omega)]; exact h2, by rw [h.2.2]; exact h3, fun j hj => by rw [h.1 21 0 j (by omega)]; exact h4 j hj⟩
theorem w_does4 {N : Nat} {σ : Mem} {Q : Int32 → Mem → Prop} {E : String → Mem → Prop} {X : Int32 → Mem → Prop} (hN : N ≤ 60) (h : ∀ τ : Mem, FX 0 σ τ → Pr τ 0 N → X (nI (sumN (fun q => q + 1) N)) τ) : ∀ (d i : Nat) (τ : Mem), d + i = N → FX 0 σ τ → Lt9 τ N → Pr τ 0 i → wL_does_4 0 Q E X (d + 1) (nI (sumN (fun q => q + 1) i)) (nI i) τ := by
  intro d
  induction d with
  | zero =>
    intro i τ e g L P
    obtain rfl : i = N := by omega
    refine ⟨L.1, ?_, rfl, rfl, ?_⟩
    · rw [L.2.1]
      decide
    rw [L.2.1, show ((0 : Int32) &&& 31) = 0 from by decide, L.2.2.1, Int32.shiftRight_zero]
    exact ⟨fun _ => h τ g P, fun q => absurd (Int32.le_refl _) q⟩
  | succ d ih =>
    intro i τ e g L P
    have hi : i < N := by omega
    refine ⟨L.1, ?_, rfl, rfl, ?_⟩
    · rw [L.2.1]
      decide
    rw [L.2.1, show ((0 : Int32) &&& 31) = 0 from by decide, L.2.2.1, Int32.shiftRight_zero]
    refine ⟨fun q => absurd q (nI_ge hi (by omega)), fun _ => ?_⟩
    obtain ⟨c, c1, c2, c3⟩ := L.2.2.2 i hi
    refine ⟨fun q => absurd L.2.1 q, fun _ => ⟨rfl, fun q => absurd q (by decide), fun _ => ⟨L.1, ?_⟩⟩⟩
    unfold wJ1_charAt_3b067_d
    rw [L.2.2.1, nI_clamp (by omega), c3, ch_and (by omega)]
    have hci : ∀ {R : Mem → Prop} {E' : String → Mem → Prop}, R τ → wJ0_checkIndex_df160 (nI i) (nI N) τ R E' := fun {R E'} r => by
      exact ⟨nI_pos (by omega), nI_lt hi (by omega), r⟩
    refine hci ⟨rfl, vp_in_nI hi (by omega), ch_ok (by omega), rfl, ch_ok (by omega), rfl, ?_⟩
    refine w_typ ⟨c1, c2⟩ rfl (by omega) P (fun u u1 u2 v2 hv2 v3 hv3 => ?_)
    have es : v2 = nI (sumN (fun q => q + 1) (i + 1)) := by
      rw [hv2, nI_add]
      rfl
    subst hv3
    rw [es, nI_1]
    exact ih (i + 1) u (by omega) (g.tr u1) (L.fx u1) u2
