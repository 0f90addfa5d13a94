/-! A SCRIPT RUN: class and reference -/
theorem w_setLenE {b n : Nat} {σ : Mem} {Q : Mem → Prop} {E : String → Mem → Prop} (W : WB σ b n) (h : ∀ τ : Mem, (∀ f k s : Nat, ¬ (f = 13 ∧ k = b) → rd τ f k s = rd σ f k s) → τ.2 = σ.2 → WB τ b 0 → Q τ) : wJ4_setLength_d00df b 0 σ Q E := by
  obtain ⟨w1, w2, w3, w4, w5⟩ := W
  have fin : ∀ u : Mem, (∀ f k s : Nat, ¬ (f = 13 ∧ k = b ∧ (s = 2 ∨ s = 3)) → rd u f k s = rd σ f k s) → u.2 = σ.2 → rd u 13 b 3 = 0 → Q u := fun u g g2 e => by
    refine h u (fun f k s n1 => g f k s (by omega)) g2 ⟨(g 13 b 1 (by omega)).trans w1, e, Nat.zero_le _, by rw [g2]; exact w4, fun i hi => ?_⟩
    rw [g2] at hi
    rw [g 16 b i (by omega)]
    exact w5 i hi
  refine ⟨fun _ => ⟨w1, by omega, w5, 0, rfl, by omega, fun _ => ?_, fun q => absurd q (Nat.not_lt_zero _)⟩, fun q => absurd (by decide) q⟩
  show (0 ≤ rd σ 13 b 3 → (rd σ 13 b 3 ≤ 0 → ∀ s3 : Mem, s3 = wr σ 13 b 3 0 → Q s3) ∧ (¬ rd σ 13 b 3 ≤ 0 → ∀ s4 : Mem, s4 = wr σ 13 b 2 1 → ∀ s5 : Mem, s5 = wr s4 13 b 3 0 → Q s5)) ∧ (¬ 0 ≤ rd σ 13 b 3 → False)
  rw [w2]
  refine ⟨fun _ => ⟨fun _ s3 h3 => ?_, fun _ s4 h4 s5 h5 => ?_⟩, fun q => absurd (nI_pos' (by omega)) q⟩
  · exact fin s3 (fun f k s n1 => by rw [h3, rd_wr, if_neg (by omega)]) (by rw [h3, wr_2]) (by rw [h3, rd_wr, if_pos ⟨rfl, rfl, rfl⟩])
  · exact fin s5 (fun f k s n1 => by rw [h5, rd_wr, if_neg (by omega), h4, rd_wr, if_neg (by omega)]) (by rw [h5, wr_2, h4, wr_2]) (by rw [h5, rd_wr, if_pos ⟨rfl, rfl, rfl⟩])
theorem w_runD {C : Nat → Nat} {X : Nat → Nat → Int32} {N : Nat} {Q : Int32 → Mem → Prop} {E : String → Mem → Prop} (hN : N ≤ 13) : ∀ (d i nB nO nP : Nat) (a : Nat → Int32) (nB' nO' nP' : Nat) (a' : Nat → Int32) (u : Mem), d + i = N → Rd C X d i nB nO nP a nB' nO' nP' a' → KC C X N u → Same u 0 nB nO nP a → Zer u →
    (∀ τ : Mem, FrC u τ → Same τ 0 nB' nO' nP' a' → Q (-1) τ) → wX12_runCommands_2 Q E (fun x s => Q x s) (fun s => Q (-1) s) (d + 1) (nI i) u := by
  intro d
  induction d with
  | zero =>
    intro i nB nO nP a nB' nO' nP' a' u e R K S Z h
    obtain ⟨rfl, rfl, rfl, rfl⟩ := R
    show wX8_count u _ E
    unfold wX8_count
    rw [K.1]
    refine ⟨fun _ => h u (FrC.rf u) S, fun z => absurd ?_ z⟩
    rw [nI_leI (by omega) (by omega)]
    omega
  | succ d ih =>
    intro i nB nO nP a nB' nO' nP' a' u e R K S Z h
    obtain ⟨m1, m2, m3, b, v, ⟨hC, hD, -⟩, R'⟩ := R
    have c3 := (K.2 i (by omega)).2.2
    refine w_oneC hN (by omega) K (hC u _ _ S Z (fun τ u1 => ⟨fun _ => ?_, fun z => absurd rfl z⟩))
    refine st_car (K.2 i (by omega)).1 (fun z => (c3 0 z).symm) (fun z => (c3 1 z).symm) (fun z => (c3 2 z).symm) (hD τ _ _ (u1.same (by decide) S) (Z.to u1.c) (fun z z1 z2 => ?_))
    have uz := u1.c.tr z1
    exact ih (i + 1) m1 m2 m3 b nB' nO' nP' a' z (by omega) R' (K.to uz) z2 (Z.to uz) (fun y y1 y2 => h y (uz.tr y1) y2)
theorem w_runF {C : Nat → Nat} {X : Nat → Nat → Int32} {N m : Nat} {Q : Int32 → Mem → Prop} {E : String → Mem → Prop} (hN : N ≤ 13) : ∀ (d i nB nO nP : Nat) (a : Nat → Int32) (u : Mem), d + i = N → Rf C X d i nB nO nP a m → KC C X N u → Same u 0 nB nO nP a → Zer u →
    (∀ τ : Mem, FrC u τ → Q (nI m) τ) → wX12_runCommands_2 Q E (fun x s => Q x s) (fun s => Q (-1) s) (d + 1) (nI i) u := by
  intro d
  induction d with
  | zero => intro i nB nO nP a u e R; exact R.elim
  | succ d ih =>
    intro i nB nO nP a u e R K S Z h
    rcases R with ⟨rfl, r, hh, hr, hh0, hC, -⟩ | ⟨m1, m2, m3, b, v, ⟨hC, hD, -⟩, R'⟩
    · exact w_oneC hN (by omega) K (hC u _ _ S Z (fun τ u1 => ⟨fun z => by omega, fun _ => h τ u1.c⟩))
    · have c3 := (K.2 i (by omega)).2.2
      refine w_oneC hN (by omega) K (hC u _ _ S Z (fun τ u1 => ⟨fun _ => ?_, fun z => absurd rfl z⟩))
      refine st_car (K.2 i (by omega)).1 (fun z => (c3 0 z).symm) (fun z => (c3 1 z).symm) (fun z => (c3 2 z).symm) (hD τ _ _ (u1.same (by decide) S) (Z.to u1.c) (fun z z1 z2 => ?_))
      have uz := u1.c.tr z1
      exact ih (i + 1) m1 m2 m3 b z (by omega) R' (K.to uz) z2 (Z.to uz) (fun y y1 => h y (uz.tr y1))
/-- the commands that the reference keeps -/
def KF (C : Nat → Nat) (X : Nat → Nat → Int32) (N : Nat) (σ : Mem) : Prop := rd σ 15 0 19 = nI N ∧ ∀ i : Nat, i < N → C i < 9 ∧ rd σ 10 16 (4 * i) = nI (Lt (C i)) ∧ ∀ q : Nat, q < nn (C i) → rd σ 10 16 (4 * i + 1 + q) = X i q
def FrQ (σ τ : Mem) : Prop := (∀ f k s : Nat, ¬ (f = 10 ∧ (k = 8 ∨ k = 13)) → ¬ (f = 15 ∧ k = 0 ∧ (s = 7 ∨ s = 10)) → rd τ f k s = rd σ f k s) ∧ τ.2 = σ.2
theorem FrQ.tr {σ τ u : Mem} (h1 : FrQ σ τ) (h2 : FrQ τ u) : FrQ σ u := ⟨fun f k s n m => (h2.1 f k s n m).trans (h1.1 f k s n m), h2.2.trans h1.2⟩
theorem KF.to {C : Nat → Nat} {X : Nat → Nat → Int32} {N : Nat} {σ τ : Mem} (h : KF C X N σ) (g : FrQ σ τ) : KF C X N τ :=
  ⟨(g.1 15 0 19 (by omega) (by omega)).trans h.1, fun i hi => ⟨(h.2 i hi).1, (g.1 10 16 _ (by omega) (by omega)).trans (h.2 i hi).2.1, fun q hq => (g.1 10 16 _ (by omega) (by omega)).trans ((h.2 i hi).2.2 q hq)⟩⟩
theorem w_oneF {C : Nat → Nat} {X : Nat → Nat → Int32} {N i f : Nat} {σ : Mem} {Q : Int32 → Mem → Prop} {E : String → Mem → Prop} {X74 : Int32 → Mem → Prop} {X105 : Mem → Prop} (hN : N ≤ 13) (hi : i < N) (K : KF C X N σ)
    (h : ∀ u : Mem, FrQ σ u → rd u 10 8 = rd σ 10 8 → wRc (C i) (X i 0) (X i 1) (X i 2) u (fun (r9 : Int32) (s10 : Mem) => ∀ s11 : Mem, s11 = wr s10 15 0 10 r9 → ((rd s11 15 0 7 = 0 → ∀ v2_12 : Int32, v2_12 = (nI i + 1) → wX13_runScript_43 Q E X74 X105 f v2_12 s11) ∧ (¬ rd s11 15 0 7 = 0 → X74 (nI i) s11))) E) : wX13_runScript_43 Q E X74 X105 (f + 1) (nI i) σ := by
  obtain ⟨k1, k2⟩ := K
  obtain ⟨c1, c2, c3⟩ := k2 i hi
  refine ⟨fun z => ?_, fun _ s8 hs8 => ?_⟩
  · rw [k1, nI_leI (by omega) (by omega)] at z
    omega
  have g : FrQ σ s8 := ⟨fun f k s _ n2 => by rw [hs8, rd_wr, if_neg (by omega)], by rw [hs8, wr_2]⟩
  exact w_does (i := i) (by omega) c1 (by rw [show (4 : Int32) = nI 4 from rfl, pk_mul]) ((g.1 10 16 _ (by omega) (by omega)).trans c2) (fun q hq => (g.1 10 16 _ (by omega) (by omega)).trans (c3 q hq)) (h s8 g (funext fun s => by rw [hs8, rd_wr, if_neg (by omega)]))
theorem w_refD {C : Nat → Nat} {X : Nat → Nat → Int32} {N : Nat} {Q : Int32 → Mem → Prop} {E : String → Mem → Prop} {X74 : Int32 → Mem → Prop} {X105 : Mem → Prop} (hN : N ≤ 13) : ∀ (d i nB nO nP : Nat) (a : Nat → Int32) (nB' nO' nP' : Nat) (a' : Nat → Int32) (u : Mem), d + i = N → Rd C X d i nB nO nP a nB' nO' nP' a' → KF C X N u → rd u 10 8 = a → rd u 15 0 7 = 0 →
    (∀ τ : Mem, FrQ u τ → rd τ 10 8 = a' → rd τ 15 0 7 = 0 → X105 τ) → wX13_runScript_43 Q E X74 X105 (d + 1) (nI i) u := by
  intro d
  induction d with
  | zero =>
    intro i nB nO nP a nB' nO' nP' a' u e R K ha h7 h
    obtain ⟨-, -, -, rfl⟩ := R
    refine ⟨fun _ => h u ⟨fun _ _ _ _ _ => rfl, rfl⟩ ha h7, fun z => absurd ?_ z⟩
    rw [K.1, nI_leI (by omega) (by omega)]
    omega
  | succ d ih =>
    intro i nB nO nP a nB' nO' nP' a' u e R K ha h7 h
    obtain ⟨m1, m2, m3, b, v, ⟨-, -, hR⟩, R'⟩ := R
    refine w_oneF hN (by omega) K (fun y y1 y2 => hR y _ _ (y2.trans ha) (fun z z1 z2 z3 s hs => ?_))
    have g : FrQ u s := ⟨fun f k q n1 n2 => by rw [hs, rd_wr, if_neg (by omega), z1.1 f k q n1 (by omega), y1.1 f k q n1 n2], by rw [hs, wr_2, z1.2, y1.2]⟩
    have e7 : rd s 15 0 7 = 0 := by rw [hs, rd_wr, if_neg (by omega)]; exact z3
    refine ⟨fun _ v2 hv2 => ?_, fun z => absurd e7 z⟩
    rw [nI_1] at hv2
    subst hv2
    exact ih (i + 1) m1 m2 m3 b nB' nO' nP' a' s (by omega) R' (K.to g) (by rw [← z2]; exact funext fun q => by rw [hs, rd_wr, if_neg (by omega)]) e7 (fun x x1 x2 x3 => h x (g.tr x1) x2 x3)
theorem w_refF {C : Nat → Nat} {X : Nat → Nat → Int32} {N m : Nat} {Q : Int32 → Mem → Prop} {E : String → Mem → Prop} {X74 : Int32 → Mem → Prop} {X105 : Mem → Prop} (hN : N ≤ 13) : ∀ (d i nB nO nP : Nat) (a : Nat → Int32) (u : Mem), d + i = N → Rf C X d i nB nO nP a m → KF C X N u → rd u 10 8 = a →
    (∀ τ : Mem, FrQ u τ → X74 (nI m) τ) → wX13_runScript_43 Q E X74 X105 (d + 1) (nI i) u := by
  intro d
  induction d with
  | zero => intro i nB nO nP a u e R; exact R.elim
  | succ d ih =>
    intro i nB nO nP a u e R K ha h
    rcases R with ⟨rfl, r, hh, hr, hh0, -, hR⟩ | ⟨m1, m2, m3, b, v, ⟨-, -, hR⟩, R'⟩
    · refine w_oneF hN (by omega) K (fun y y1 y2 => hR y _ _ (y2.trans ha) (fun z z1 z2 z3 s hs => ?_))
      have g : FrQ u s := ⟨fun f k q n1 n2 => by rw [hs, rd_wr, if_neg (by omega), z1.1 f k q n1 (by omega), y1.1 f k q n1 n2], by rw [hs, wr_2, z1.2, y1.2]⟩
      have e7 : rd s 15 0 7 = hh := by rw [hs, rd_wr, if_neg (by omega)]; exact z3
      exact ⟨fun z => absurd (e7.symm.trans z) hh0, fun _ => h s g⟩
    · refine w_oneF hN (by omega) K (fun y y1 y2 => hR y _ _ (y2.trans ha) (fun z z1 z2 z3 s hs => ?_))
      have g : FrQ u s := ⟨fun f k q n1 n2 => by rw [hs, rd_wr, if_neg (by omega), z1.1 f k q n1 (by omega), y1.1 f k q n1 n2], by rw [hs, wr_2, z1.2, y1.2]⟩
      have e7 : rd s 15 0 7 = 0 := by rw [hs, rd_wr, if_neg (by omega)]; exact z3
      refine ⟨fun _ v2 hv2 => ?_, fun z => absurd e7 z⟩
      rw [nI_1] at hv2
      subst hv2
      exact ih (i + 1) m1 m2 m3 b s (by omega) R' (K.to g) (by rw [← z2]; exact funext fun q => by rw [hs, rd_wr, if_neg (by omega)]) (fun x x1 => h x (g.tr x1))
/-- the invariant behind a script that failed -/
theorem inv_scr {t nT nL nC nx : Nat} {σ σf : Mem} (I : InvT t nT nL nC nx σ)
    (g : ∀ f k s : Nat, ¬ SIn 0 f k → ¬ SIn 1 f k → ¬ scr f k s → ¬ (f = 10 ∧ (k = 7 ∨ k = 8 ∨ k = 9 ∨ k = 13 ∨ k = 16)) → ¬ (f = 15 ∧ k = 0 ∧ (s = 7 ∨ s = 8 ∨ s = 9 ∨ s = 10 ∨ s = 17 ∨ s = 18 ∨ s = 19)) → ¬ (f = 14 ∧ k = 0 ∧ (s = 11 ∨ s = 12)) → ¬ (f = 11 ∨ f = 12) → ¬ (f = 13 ∧ k = 0) → rd σf f k s = rd σ f k s)
    (h2 : σf.2.2.1 = σ.2.2.1) (S0 : StOk t σf 0 (rd σf 10 8)) (E8 : rd σf 14 0 11 = rd σf 15 0 8 ∧ (rd σf 15 0 8 = -1 ∨ 0 ≤ rd σf 15 0 8)) (E9 : rd σf 14 0 12 = rd σf 15 0 9 ∧ (rd σf 15 0 9 = -1 ∨ 0 ≤ rd σf 15 0 9))
    (T : Txt σf 0 0 (rd σf 10 15)) (T7 : rd σf 15 0 17 = nI 0) : InvT t 0 nL nC nx σf := by
  obtain ⟨hN, hst, h3, ⟨h4, h5, h6, h7⟩, h8, h9, h10, h11, hZ⟩ := I
  have gs : ∀ k : Nat, k < 11 → k ≠ 0 → k ≠ 1 → ∀ f k' s : Nat, SIn k f k' → rd σf f k' s = rd σ f k' s := by
    intro k hk n0 n1 f k' s hh
    unfold SIn at hh
    exact g f k' s (by unfold SIn; omega) (by unfold SIn; omega) (by unfold scr; omega) (by omega) (by omega) (by omega) (by omega) (by omega)
  have gx : ∀ s : Nat, s = 6 ∨ s = 12 ∨ s = 14 → rd σf 15 0 s = rd σ 15 0 s := fun s hs => g 15 0 s (by unfold SIn; omega) (by unfold SIn; omega) (by unfold scr; omega) (by omega) (by omega) (by omega) (by omega) (by omega)
  have g5 : ∀ s : Nat, rd σf 5 0 s = rd σ 5 0 s := fun s => g 5 0 s (by unfold SIn; omega) (by unfold SIn; omega) (by unfold scr; omega) (by omega) (by omega) (by omega) (by omega) (by omega)
  have ga : ∀ k s : Nat, k = 10 ∨ k = 11 ∨ k = 14 ∨ k = 12 ∨ (k < 4 ∧ s = 0) → rd σf 10 k s = rd σ 10 k s := fun k s hk => g 10 k s (by unfold SIn; omega) (by unfold SIn; omega) (by unfold scr; omega) (by omega) (by omega) (by omega) (by omega) (by omega)
  have gb : ∀ f s : Nat, f = 13 ∨ f = 16 → rd σf f 1 s = rd σ f 1 s := fun f s hf => g f 1 s (by unfold SIn; omega) (by unfold SIn; omega) (by unfold scr; omega) (by omega) (by omega) (by omega) (by omega) (by omega)
  refine ⟨⟨Nat.zero_le _, hN.2.1, hN.2.2.1, hN.2.2.2⟩, S0, ⟨?_, ?_⟩, ⟨?_, ?_, ?_, fun i hi => ?_⟩, E8, E9, ⟨?_, ?_⟩, ⟨T, T7⟩, fun k hk => ?_, fun m hm => ?_⟩
  · rw [g 14 0 3 (by unfold SIn; omega) (by unfold SIn; omega) (by unfold scr; omega) (by omega) (by omega) (by omega) (by omega) (by omega), gx 12 (by omega)]
    exact h3.1
  · rw [gx 12 (by omega)]
    exact h3.2.imp id fun z => ⟨z.1, StOk.on (gs 2 (by decide) (by decide) (by decide)) (fun i _ => ga 10 i (by omega)) z.2⟩
  · rw [g5]; exact h4
  · rw [g5]; exact h5
  · rw [gx 6 (by omega)]; exact h6
  · have := hN.2.2.2
    exact StOk.on (gs _ (by omega) (by omega) (by omega)) (fun q _ => ga 11 _ (by omega)) (h7 i hi)
  · exact h10.1.on2 (fun s => gb 13 s (by omega)) (fun s => gb 16 s (by omega)) (by rw [h2]) (fun i => ga 14 i (by omega))
  · rw [gx 14 (by omega)]
    exact h10.2
  · rw [ga k 0 (by omega)]
    exact hZ.1 k hk
  · rw [ga 12 m (by omega)]
    exact hZ.2 m hm
