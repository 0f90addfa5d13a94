/-! THE LAW'S END: what is asked, saved, changed and restored -/
theorem lgP_b {f : Nat → Int32} : ∀ m b q : Nat, b ≤ q + m → lgP f m b q ≤ q + m
  | 0, _, _, h => h
  | m + 1, b, q, h => by
    unfold lgP
    split
    · have g := lgP_b (f := f) m b (q + 1) (by omega)
      omega
    · have g := lgP_b (f := f) m q (q + 1) (by omega)
      omega
theorem J.mono {t t' nC nx nB nO nP : Nat} {a : Nat → Int32} {σ : Mem} (h : t ≤ t') (h2 : t' ≤ 512) (I : J t nC nx nB nO nP a σ) : J t' nC nx nB nO nP a σ := ⟨⟨I.1.1, I.1.2.1, h2⟩, I.2.1.mono h, I.2.2.1.mono h, I.2.2.2⟩
section TA
variable {t nC nx nB nO nP : Nat} {a : Nat → Int32} {σ : Mem} {Q : Int32 → Mem → Prop} {E : String → Mem → Prop}
theorem q_isIn {nd sp : Nat} {x x1 x2 : Int32} (I : J t nC nx nB nO nP a σ) (h1 : 1 ≤ nd ∧ nd ≤ 500 ∧ x1 = nI nd) (h2 : 10 ≤ sp ∧ sp ≤ 60 ∧ x2 = nI sp) (h : ∀ (r : Int32) (τ : Mem), Sz 1 r → FrS σ τ → Q r τ) : wL_isIn x x1 x2 σ Q E := by
  obtain ⟨-, F, G, S, -, Z⟩ := I
  have hB := F.1.1
  obtain ⟨w, s, z, hb⟩ := bal_wsp F
  have B := bc_of F S Z hb
  unfold wL_isIn wX12_isInBlend wX12_positionOfBale wX12_testBlend
  rcases fst_or (fun q => a (14 + 4 * q)) x nB with ⟨i, hi, e1, e2⟩ | hno
  rotate_left
  · refine w_find_no (k := 0) (n := nB) (f := fun q => a (14 + 4 * q)) (S.2.1 0 (by decide)) hB (fun q hq => (S.2.2.2.2.1 q hq).1) hno ?_
    exact ⟨fun q => absurd rfl q, fun _ => Or.inl ⟨rfl, h _ σ (Sz.ref ref1) (FrS.rf σ)⟩⟩
  refine w_find_at (k := 0) (n := nB) (f := fun q => a (14 + 4 * q)) (S.2.1 0 (by decide)) hB (fun q hq => (S.2.2.2.2.1 q hq).1) hi e1 e2 ?_
  refine ⟨fun _ => ?_, fun q => absurd q (nI_nm1 (by omega))⟩
  refine w_can1 h1 h2 ⟨fun _ => ?_, fun q => absurd q (by decide)⟩
  refine w_bestSet h1.2.2 h2.2.2 B h1.2.1 h2.2.1 (fun τ t1 _ => ?_)
  have z0 : Q 0 τ := h 0 τ (Sz.nI (w := 0) (by decide)) t1.s
  have z1 : Q 1 τ := h 1 τ (Sz.nI (w := 1) (by decide)) t1.s
  exact ⟨fun _ => ⟨fun _ => ⟨fun _ => z0, fun q => absurd rfl q⟩, fun _ => ⟨fun q => absurd q (by decide), fun _ => z1⟩⟩, fun _ => Or.inr (Or.inr ⟨rfl, h _ τ (Sz.ref ref3) t1.s⟩)⟩
theorem q_longest (I : J t nC nx nB nO nP a σ) (h : ∀ r : Int32, Sz 1 r → Q r σ) : wL_longestPiece σ Q E := by
  obtain ⟨-, F, G, S, -, Z⟩ := I
  have hP := F.1.2.2.1
  unfold wL_longestPiece wX12_longestPiece wX7_size
  cases nP with
  | zero => exact ⟨fun q => absurd S.2.2.2.1 q, fun _ => ⟨rfl, h _ (Sz.ref ref1)⟩⟩
  | succ n =>
    refine ⟨fun _ => ?_, fun q => absurd (S.2.2.2.1.symm.trans q) (nI_ne0 (by omega) (by omega))⟩
    refine w_largest (k := 9) (f := fun q => a (78 + q)) S.2.2.2.1 hP (fun q hq => S.2.2.2.2.2.2 q hq) (h _ (Sz.nI ?_))
    have g := lgP_b (f := fun q => a (78 + q)) n 0 1 (by omega)
    omega
theorem q_pbl {x : Int32} (I : J t nC nx nB nO nP a σ) (h : ∀ r : Int32, Sz 1 r → Q r σ) : wL_pieceByLength x σ Q E := by
  obtain ⟨-, F, G, S, -, Z⟩ := I
  have hP := F.1.2.2.1
  unfold wL_pieceByLength wX12_pieceByLength wX12_positionAtRank
  rcases fst_or (fun q => nI (cA (fun q => a (78 + q)) nP q)) x nP with ⟨i, hi, e1, e2⟩ | hno
  · exact w_findRank_at (k := 9) (n := nP) (f := fun q => a (78 + q)) S.2.2.2.1 hP (fun q hq => S.2.2.2.2.2.2 q hq) hi e1 e2 ⟨fun _ => h _ (Sz.nI (by omega)), fun q => absurd q (nI_nm1 (by omega))⟩
  · exact w_findRank_no (k := 9) (n := nP) (f := fun q => a (78 + q)) S.2.2.2.1 hP (fun q hq => S.2.2.2.2.2.2 q hq) hno ⟨fun q => absurd rfl q, fun _ => ⟨rfl, h _ (Sz.ref ref1)⟩⟩
theorem q_obt {x : Int32} (I : J t nC nx nB nO nP a σ) (h : ∀ (r : Int32) (τ : Mem), Sz 1 r → FrS σ τ → Q r τ) : wL_orderByTime x σ Q E := by
  obtain ⟨⟨-, -, ht⟩, F, G, S, -, Z⟩ := I
  have hO := F.1.2.1
  unfold wL_orderByTime wX12_orderByTime wX12_positionAtRank
  refine w_putKeysO (n := nO) (S.2.2.1 0 (by decide)) (S.2.2.1 3 (by decide)) hO (fun τ u1 u2 u3 _ => ?_)
  have u : FrS σ τ := ⟨fun f k s n => u1 f k s (by unfold scc at n; omega), u2⟩
  have S1 : Same τ 0 nB nO nP a := u.same (by decide) S
  rcases fst_or (fun q => nI (cA (fun q => rd τ 1 110 q) nO q)) x nO with ⟨i, hi, e1, e2⟩ | hno
  · refine w_findRank_at (k := 110) (n := nO) (f := fun q => rd τ 1 110 q) u3 (show nO ≤ 12 by omega) (fun q hq => rfl) hi e1 e2 ⟨fun _ => ?_, fun q => absurd q (nI_nm1 (by omega))⟩
    refine w_get (k := 5) (n := nO) (i := i) (S1.2.2.1 0 (by decide)) hi hO rfl ?_
    obtain ⟨⟨d, hd, e⟩, -⟩ := F.2.2.2.2.2.2.1 i hi
    rw [show rd τ 1 5 i = a (54 + 3 * i) from (S1.2.2.2.2.2.1 i hi).1, e]
    exact h _ τ (Sz.nI (by omega)) u
  · exact w_findRank_no (k := 110) (n := nO) (f := fun q => rd τ 1 110 q) u3 (show nO ≤ 12 by omega) (fun q hq => rfl) hno ⟨fun q => absurd rfl q, fun _ => ⟨rfl, h _ τ (Sz.ref ref1) u⟩⟩
theorem q_shelf (I : J t nC nx nB nO nP a σ) (o : Ou σ) (h : ∀ (r : Int32) (τ : Mem), Sz 1 r → FX 1 σ τ → Q r τ) : wX12_renderShelf σ Q E := by
  obtain ⟨⟨-, -, ht⟩, F, G, S, -, Z⟩ := I
  have hP := F.1.2.2.1
  obtain ⟨p, hp, hs, -⟩ := F.2.2.2.2.2.2.2.1
  have pb : ∀ q : Nat, q < nP → p q < 100000 := fun q hq => by have := sumN_ge (p := p) hq; omega
  have lb := ln_b p nP
  unfold wX12_renderShelf
  refine w_setLen0 o.wb (fun y y1 y2 _ => ⟨nP + 1, by omega, ?_⟩)
  refine w_shelfC (p := p) hP pb ((y1.1 0 9 1 (by omega)).trans S.2.2.2.1) (fun q hq => ((y1.1 1 9 q (by omega)).trans (S.2.2.2.2.2.2 q hq)).trans (hp q hq).2) y2 (fun τ t1 t2 _ => ?_)
  exact w_len t2 ⟨rfl, h _ τ (Sz.nI (by omega)) (y1.tr t1)⟩
end TA
/-- a sound mill with the row a saved and seen in array k -/
def Tl (t k nB nO nP : Nat) (a : Nat → Int32) (σ : Mem) : Prop := (∃ t0 nC nx mB mO mP : Nat, ∃ b : Nat → Int32, t0 ≤ t ∧ J t0 nC nx mB mO mP b σ) ∧ Same σ 2 nB nO nP a ∧ rd σ 14 0 3 = 1 ∧ ∀ s : Nat, rd σ 19 k s = snF nB nO nP a s
theorem tl_step {t k nB nO nP : Nat} {a : Nat → Int32} {σ : Mem} {w : Mem → (Int32 → Mem → Prop) → (String → Mem → Prop) → Prop} {Q : Int32 → Mem → Prop} {E : String → Mem → Prop} (T : Tl t k nB nO nP a σ) (ht : t < 512)
    (ha : ∀ (t0 nC nx mB mO mP : Nat) (b : Nat → Int32), t0 < 512 → J t0 nC nx mB mO mP b σ → Act w 1 t0 nC nx mB mO mP b σ) (h : ∀ (r : Int32) (τ : Mem), Sz 1 r → Tl (t + 1) k nB nO nP a τ → Q r τ) : w σ Q E := by
  obtain ⟨⟨t0, nC, nx, mB, mO, mP, b, h0, I⟩, S, hs, hr⟩ := T
  have c : ∀ τ : Mem, Ps σ τ → Same τ 2 nB nO nP a ∧ rd τ 14 0 3 = 1 ∧ ∀ s : Nat, rd τ 19 k s = snF nB nO nP a s := fun τ p => ⟨S.on fun f k' s hh => p.1 f k' s (Or.inr (Or.inl hh)), (p.1 14 0 3 (Or.inr (Or.inr (Or.inl ⟨rfl, rfl⟩)))).trans hs, fun s => (p.r19 k s).trans (hr s)⟩
  exact ha t0 nC nx mB mO mP b (by omega) I Q E (fun r τ h1 h2 h3 _ => h r τ (Sz.ref h1) ⟨⟨t0, nC, nx, mB, mO, mP, b, by omega, h2⟩, c τ h3⟩) (fun τ v t' nB' nO' nP' a' h1 h2 h3 h4 h5 h6 _ => h v τ (Sz.an h3) ⟨⟨t', _, _, nB', nO', nP', a', by omega, h4⟩, c τ h6⟩)
section TB
variable {S : Scr} {Q : Int32 → Mem → Prop} {E : String → Mem → Prop}
theorem w_tail2 {t k nB nO nP : Nat} {a : Nat → Int32} {σ : Mem} {v6 : Int32} (T : Tl 440 k nB nO nP a σ) (F0 : Fits t nB nO nP a) (G0 : Srt t nB nO a) (ht : t ≤ 440) (z6 : Sz 5 v6) (hQ : ∀ τ : Mem, Q 1 τ) : wL_buyBale 1 10 1 σ (fun (r20 : Int32) (s21 : Mem) => wL_blend 1 10 s21 (fun (r22 : Int32) (s23 : Mem) => wL_addOrder 2 2 s23 (fun (r24 : Int32) (s25 : Mem) => wL_order 0 s25 (fun (r26 : Int32) (s27 : Mem) => wL_spin r26 s27 (fun (r28 : Int32) (s29 : Mem) => wL_sell 0 s29 (fun (r30 : Int32) (s31 : Mem) => ∀ v6_32 : Int32, v6_32 = (v6 + ((((r20 + r22) + r24) + r28) + r30)) → ((v6_32 ≤ (-90000000) → False) ∧ (¬ v6_32 ≤ (-90000000) → wL_restore s31 (fun (r33 : Int32) (s34 : Mem) => ((¬ r33 = nI nP → False) ∧ (r33 = nI nP → wL_seen (k + 2) s34 (fun (s35 : Mem) => wL_areAlike k (k + 2) s35 (fun (r36 : Int32) (s37 : Mem) => ((r36 = 0 → False) ∧ (¬ r36 = 0 → wL_undo s37 (fun (r38 : Int32) (s39 : Mem) => ((¬ r38 = (-900001) → False) ∧ (r38 = (-900001) → Q 1 s39))) E))) E) (fun _ _ => False)))) E))) E) E) E) E) E) E := by
  refine tl_step (w := fun s Q E => wL_buyBale 1 10 1 s Q E) T (by decide) (fun _ _ _ _ _ _ _ h I => l_buyBale _ _ _ I h) (fun r20 s21 z20 T21 => ?_)
  refine tl_step (w := fun s Q E => wL_blend 1 10 s Q E) T21 (by decide) (fun _ _ _ _ _ _ _ h I => l_blend _ _ I h) (fun r22 s23 z22 T23 => ?_)
  refine tl_step (w := fun s Q E => wL_addOrder 2 2 s Q E) T23 (by decide) (fun _ _ _ _ _ _ _ h I => l_addOrder _ _ I h) (fun r24 s25 z24 T25 => ?_)
  have T25' := T25
  obtain ⟨⟨_, _, _, _, _, _, _, _, I25⟩, -⟩ := T25'
  refine w_ordr (v := 0) I25 (by decide) (fun i _ => ?_)
  refine tl_step (w := fun s Q E => wL_spin (nI i) s Q E) T25 (by decide) (fun _ _ _ _ _ _ _ h I => l_spin _ I h) (fun r28 s29 z28 T29 => ?_)
  refine tl_step (w := fun s Q E => wL_sell 0 s Q E) T29 (by decide) (fun _ _ _ _ _ _ _ h I => l_sell _ I h) (fun r30 s31 z30 T31 v6' hv' => ?_)
  have z : Sz 10 v6' := by
    rw [hv']
    exact Sz.add (b := 5) (c := 5) (by decide) z6 (Sz.add (b := 4) (c := 1) (by decide) (Sz.add (b := 3) (c := 1) (by decide) (Sz.add (b := 2) (c := 1) (by decide) (Sz.add (b := 1) (c := 1) (by decide) z20 z22) z24) z28) z30)
  refine ⟨fun q => absurd q (Int32.not_le.mpr (Sz.ge (by decide) z)), fun _ => ?_⟩
  obtain ⟨⟨t9, c9, x9, B9, O9, P9, a9, ht9, I31⟩, S31, hs31, r31⟩ := T31
  refine w_res (I31.mono (t' := 445) ht9 (by decide)) (F0.mono (by omega)) (G0.mono (by omega)) S31 hs31 (fun s34 I34 r34 => ⟨fun q => absurd rfl q, fun _ => ?_⟩)
  refine seen_J I34 (fun s35 I35 g3 g4 z35 => w_alike (fun s hs => ?_) ⟨fun q => absurd q (by decide), fun _ => ?_⟩)
  · rw [z35, g3 19 k s (by omega), r34, r31]
  · exact w_und0 I35 ⟨fun q => absurd rfl q, fun _ => hQ _⟩
theorem w_tail {nd sp k : Nat} {v2 v3 : Int32} {σ : Mem} (h1 : 1 ≤ nd ∧ nd ≤ 500 ∧ v2 = nI nd) (h2 : 10 ≤ sp ∧ sp ≤ 60 ∧ v3 = nI sp) (B : Bg 440 σ) (hQ : ∀ τ : Mem, Q 1 τ) : wL_law_159 S Q E k v2 v3 σ := by
  obtain ⟨⟨t, nC, nx, nB, nO, nP, a, ht, I⟩, g, o⟩ := B
  unfold wL_law_159
  refine seen_J I (fun s1 I1 f1 f2 z1 => ?_)
  have o1 := ou_same f1 f2 o
  refine w_sav I1 (fun s3 I3 S3 hs3 k3 b3 e3 => ?_)
  have o3 : Ou s3 := Txt.on2 (fun s => (b3 1 s).1) (fun s => (b3 1 s).2) (by rw [e3]) (fun _ => rfl) o1
  refine w_bale (v := 0) I3 (by decide) (fun i _ => ?_)
  refine q_isIn I3 h1 h2 (fun r6 s7 z6 u7 => ?_)
  have I7 := I3.on u7
  refine q_longest I7 (fun r8 z8 => ?_)
  refine q_pbl I7 (fun r10 z10 => ?_)
  refine q_shelf I7 (u7.ou o3) (fun r12 s13 z12 x13 => ?_)
  have I13 : J t nC nx nB nO nP a s13 := I7.cg fun f k s hf => x13.1 f k s (by omega)
  refine q_obt I13 (fun r14 s15 z14 u15 v6 hv6 => ?_)
  have zz : Sz 5 v6 := by
    rw [hv6]
    exact Sz.add (b := 4) (c := 1) (by decide) (Sz.add (b := 3) (c := 1) (by decide) (Sz.add (b := 2) (c := 1) (by decide) (Sz.add (b := 1) (c := 1) (by decide) z6 z8) z10) z12) z14
  refine seen_J (I13.on u15) (fun s17 I17 g1 g2 z17 => ?_)
  have r17 : ∀ s : Nat, rd s17 19 k s = snF nB nO nP a s := fun s => by
    rw [g1 19 k s (by omega), u15.r19, x13.1 19 k s (by omega), u7.r19, k3, z1]
  have c17 : ∀ f k' s : Nat, (SIn 2 f k' ∨ (f = 14 ∧ s = 3)) → rd s17 f k' s = rd s3 f k' s := fun f k' s hh => by
    unfold SIn at hh
    rw [g1 f k' s (by omega), u15.1 f k' s (by unfold scc; omega), x13.1 f k' s (by omega), u7.1 f k' s (by unfold scc; omega)]
  refine w_alike (fun s hs => by rw [z17, r17]) ⟨fun _ => ?_, fun q => absurd q (by decide)⟩
  exact w_tail2 ⟨⟨t, _, _, nB, nO, nP, a, ht, I17⟩, S3.on fun f k' s hh => c17 f k' s (Or.inl hh), (c17 14 0 3 (Or.inr ⟨rfl, rfl⟩)).trans hs3, r17⟩ I.2.1 I.2.2.1 ht zz hQ
end TB
