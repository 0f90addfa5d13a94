/-! RUN SCRIPT -/
theorem WB.to {b n : Nat} {σ τ : Mem} (W : WB σ b n) (g : ∀ f s : Nat, f = 13 ∨ f = 16 → rd τ f b s = rd σ f b s) (h2 : τ.2.2.1 = σ.2.2.1) : WB τ b n := by
  obtain ⟨w1, w2, w3, w4, w5⟩ := W
  refine ⟨(g 13 1 (by omega)).trans w1, (g 13 3 (by omega)).trans w2, by rw [h2]; exact w3, by rw [h2]; exact w4, fun i hi => ?_⟩
  rw [h2] at hi
  rw [g 16 i (by omega)]
  exact w5 i hi
theorem pC_52 {j : Nat} {σ : Mem} (I : Inv j σ) (hj : j < 512) : wC_52 σ (Inv (j + 1)) := by
  obtain ⟨t, nT, nL, nC, nx, hjt, J⟩ := I
  have J0 := J
  obtain ⟨hN, ⟨nB, nO, nP, F, S⟩, h3, ⟨h4, h5, h6, h7⟩, h8, h9, h10, ⟨T, T17⟩, hZ⟩ := J
  have hB := F.1.1
  have hO := F.1.2.1
  have hP := F.1.2.2.1
  have hn := hN.1
  have hx8 := hN.2.2.2
  have SG := T.sgs hn
  obtain ⟨K, k1, k2⟩ := last_cm hn (rd σ 10 15)
  have hK := ps_k hn k1
  obtain ⟨s, hs⟩ : ∃ s, s = sg nT (rd σ 10 15) := ⟨_, rfl⟩
  have hce := cm_end s (ps s K)
  have hpb := ps_b K k1
  rw [← hs] at k1 k2 hK hpb
  unfold wC_52 wL_runScript wX12_runScript
  refine w_form T hn (hs ▸ k1) (hs ▸ k2) (fun τ t1 t2 => ?_)
  rw [← hs]
  have Tτ : Txt τ 0 nT (rd σ 10 15) := T.rd (fun f k q hf => t1 f k q (by omega)) t2
  refine ⟨fun nof => ?_, fun okf c3 cc => ?_⟩
  · -- not of the form
    refine w_setLenE Tτ.wb (fun z z1 z2 z3 => ⟨fun q => absurd q (nI_nm1 (by omega)), fun _ s16 hs16 => Or.inl ⟨rfl, ?_⟩⟩)
    have g16 : ∀ f k' q : Nat, ¬ (f = 11 ∨ f = 12 ∨ (f = 10 ∧ k' = 7)) → ¬ (f = 13 ∧ k' = 0) → ¬ (f = 14 ∧ k' = 0 ∧ q = 11) → rd s16 f k' q = rd σ f k' q := fun f k' q n1 n2 n3 => by
      rw [hs16, rd_wr, if_neg n3, z1 f k' q n2, t1 f k' q n1]
    have e16 : s16.2 = σ.2 := by rw [hs16, wr_2, z2, t2]
    refine w_script SG (funext fun q => g16 10 15 q (by omega) (by omega) (by omega)) ((g16 15 0 17 (by omega) (by omega) (by omega)).trans T17) (hs ▸ k1) (hs ▸ k2) (fun y y1 y2 y3 => ⟨fun _ s3 hs3 => ⟨fun q => absurd rfl q, fun _ => w_thr1 ⟨fun q => absurd q (by decide), fun _ s38 hs38 => ?_⟩⟩, fun okf => absurd (hs ▸ okf) nof⟩)
    rw [← hs] at y3
    have e18 : rd (wr s3 15 0 7 1) 15 0 18 = nI (cm s (ps s K)).2 := by rw [rd_wr, if_neg (by omega), hs3, rd_wr, if_neg (by omega)]; exact y3
    rw [e18] at hs38
    have gf : ∀ f k' q : Nat, ¬ (f = 11 ∨ f = 12 ∨ (f = 10 ∧ k' = 7)) → ¬ (f = 13 ∧ k' = 0) → ¬ (f = 14 ∧ k' = 0 ∧ q = 11) → ¬ (f = 10 ∧ k' = 16) → ¬ (f = 15 ∧ k' = 0 ∧ (q = 7 ∨ q = 8 ∨ q = 17 ∨ q = 18 ∨ q = 19)) → rd s38 f k' q = rd σ f k' q := fun f k' q n1 n2 n3 n4 n5 => by
      rw [hs38, rd_wr, if_neg (by omega), rd_wr, if_neg (by omega), hs3, rd_wr, if_neg (by omega), y1 f k' q (by omega) n4]
      exact g16 f k' q n1 n2 n3
    have e38 : s38.2 = σ.2 := by rw [hs38, wr_2, wr_2, hs3, wr_2, y2, e16]
    have e388 : rd s38 15 0 8 = nI (cm s (ps s K)).2 := by rw [hs38, rd_wr, if_pos ⟨rfl, rfl, rfl⟩]
    have gz : ∀ f q : Nat, f = 13 ∨ f = 16 → rd s38 f 0 q = rd z f 0 q := fun f q hf => by
      rw [hs38, rd_wr, if_neg (by omega), rd_wr, if_neg (by omega), hs3, rd_wr, if_neg (by omega), y1 f 0 q (by omega) (by omega), hs16, rd_wr, if_neg (by omega)]
    refine ⟨?_, fun q => absurd q (by decide), t, 0, nL, nC, nx, by omega, inv_scr J0 (fun f k' q n1 n2 n3 n4 n5 n6 n7 n8 => gf f k' q (by omega) (by omega) (by omega) (by omega) (by omega)) (by rw [e38]) ?_ ⟨?_, ?_⟩ ⟨?_, ?_⟩ ?_ ?_⟩
    · rw [hs38, rd_wr, if_neg (by omega), rd_wr, if_pos ⟨rfl, rfl, rfl⟩]
    · exact StOk.on (fun f k' q hh => gf f k' q (by unfold SIn at hh; omega) (by unfold SIn at hh; omega) (by unfold SIn at hh; omega) (by unfold SIn at hh; omega) (by unfold SIn at hh; omega)) (fun i _ => gf 10 8 i (by omega) (by omega) (by omega) (by omega) (by omega)) ⟨nB, nO, nP, F, S⟩
    · rw [e388, hs38, rd_wr, if_neg (by omega), rd_wr, if_neg (by omega), hs3, rd_wr, if_neg (by omega), y1 14 0 11 (by omega) (by omega), hs16, rd_wr, if_pos ⟨rfl, rfl, rfl⟩]
    · rw [e388]
      exact Or.inr (nI_pos' (by omega))
    · rw [gf 14 0 12 (by omega) (by omega) (by omega) (by omega) (by omega), gf 15 0 9 (by omega) (by omega) (by omega) (by omega) (by omega)]
      exact h9.1
    · rw [gf 15 0 9 (by omega) (by omega) (by omega) (by omega) (by omega)]
      exact h9.2
    · exact Txt.mk (z3.to gz (by rw [e38, z2, t2])) (fun i hi => absurd hi (Nat.not_lt_zero _))
    · rw [hs38, rd_wr, if_neg (by omega), rd_wr, if_neg (by omega), hs3, rd_wr, if_pos ⟨rfl, rfl, rfl⟩]
      rfl
  -- of the form: the commands
  have okf' := okf
  obtain ⟨o1, o2⟩ := okf'
  have hlen := (hce.2.2 o1).2
  have hKn : K + 1 ≤ nT := by omega
  obtain ⟨C, hC⟩ : ∃ C : Nat → Nat, C = fun i => wn s (ps s i) := ⟨_, rfl⟩
  obtain ⟨X, hX⟩ : ∃ X : Nat → Nat → Int32, X = fun i q => if q < nn (C i) then nI (av s (dg (C i)) q (ps s i + (wt (C i)).length)) else 0 := ⟨_, rfl⟩
  have Ce : ∀ i : Nat, C i = wn s (ps s i) := fun i => by rw [hC]
  have Xe : ∀ i q : Nat, q < nn (C i) → X i q = nI (av s (dg (C i)) q (ps s i + (wt (C i)).length)) := fun i q h => by rw [hX]; exact if_pos h
  have Xz : ∀ i q : Nat, nn (C i) ≤ q → X i q = 0 := fun i q h => by rw [hX]; exact if_neg (by omega)
  have C9 : ∀ i : Nat, i < K + 1 → C i < 9 := fun i hi => by rw [Ce]; exact (cc i (by omega)).1
  refine w_setLenE Tτ.wb (fun z z1 z2 z3 => ⟨fun _ => ?_, fun q => absurd rfl q⟩)
  have gz : ∀ f k' q : Nat, ¬ (f = 11 ∨ f = 12 ∨ (f = 10 ∧ k' = 7)) → ¬ (f = 13 ∧ k' = 0) → rd z f k' q = rd σ f k' q := fun f k' q n1 n2 => (z1 f k' q n2).trans (t1 f k' q n1)
  have Sz : Same z 0 nB nO nP (rd σ 10 8) := S.on fun f k' q hh => gz f k' q (by unfold SIn at hh; omega) (by unfold SIn at hh; omega)
  refine w_stk (k := 1) (k2 := 0) (by decide) (by decide) (by decide) hB hO hP Sz (fun y y1 y2 y3 => ?_)
  have Sy : Same y 0 nB nO nP (rd σ 10 8) := Sz.on fun f k' q hh => y1 f k' q (by unfold SIn at hh ⊢; omega)
  have KCy : KC C X (K + 1) y := by
    refine ⟨?_, fun i hi => ⟨C9 i hi, ?_, fun q hq => ?_⟩⟩
    · rw [y1 11 0 3 (by unfold SIn; omega), z1 11 0 3 (by omega)]
      exact c3
    · rw [y1 12 0 i (by unfold SIn; omega), z1 12 0 i (by omega), Ce]
      exact (cc i (by omega)).2.1
    · rw [y1 10 7 _ (by unfold SIn; omega), z1 10 7 _ (by omega), Xe i q hq]
      rw [Ce] at hq ⊢
      exact (cc i (by omega)).2.2 q hq
  have Zy : Zer y := ⟨fun k hk => by rw [y1 10 k 0 (by unfold SIn; omega), gz 10 k 0 (by omega) (by omega)]; exact hZ.1 k hk, fun m hm => by rw [y1 10 12 m (by unfold SIn; omega), gz 10 12 m (by omega) (by omega)]; exact hZ.2 m hm⟩
  have KF0 : ∀ p v : Mem, (∀ i : Nat, i ≤ K → CmF s i p) → rd p 15 0 19 = nI (K + 1) → (∀ q : Nat, rd v 10 16 q = rd p 10 16 q) → rd v 15 0 19 = rd p 15 0 19 → KF C X (K + 1) v := fun p v c e a b => by
    refine ⟨b.trans e, fun i hi => ⟨C9 i hi, ?_, fun q hq => ?_⟩⟩
    · rw [a, Ce]
      exact (c i (by omega)).1
    · rw [a, Xe i q hq]
      rw [Ce] at hq ⊢
      exact (c i (by omega)).2 q hq
  refine ⟨K + 1 + 1, ?_⟩
  rcases trace (C := C) (X := X) (K + 1) 0 t nB nO nP (rd σ 10 8) (by omega) F (fun i' hi' => ⟨C9 i' (by omega), Xz i'⟩) with ⟨mB, mO, mP, a', F', R⟩ | ⟨m, hm, R⟩
  · refine w_runD (N := K + 1) (by omega) (K + 1) 0 nB nO nP _ mB mO mP a' y rfl R KCy Sy Zy (fun w w1 w2 => ⟨fun _ => ?_, fun q => absurd rfl q⟩)
    have gw : ∀ f k' q : Nat, ¬ (f = 11 ∨ f = 12 ∨ (f = 10 ∧ k' = 7)) → ¬ (f = 13 ∧ k' = 0) → ¬ SIn 0 f k' → ¬ SIn 1 f k' → ¬ scr f k' q → rd w f k' q = rd σ f k' q := fun f k' q n1 n2 n3 n4 n5 => by
      rw [w1.1 f k' q n3 n5, y1 f k' q n4]
      exact gz f k' q n1 n2
    have S1 : Same w 1 nB nO nP (rd σ 10 8) := y3.on fun f k' q hh => w1.1 f k' q (by unfold SIn at hh ⊢; omega) (by unfold SIn at hh; unfold scr; omega)
    refine w_record (nx := nx) (c := nC) ((gw 5 0 1 (by omega) (by omega) (by unfold SIn; omega) (by unfold SIn; omega) (by unfold scr; omega)).trans h4) hx8 ((gw 5 0 2 (by omega) (by omega) (by unfold SIn; omega) (by unfold SIn; omega) (by unfold scr; omega)).trans h5) hN.2.2.1 (by decide) hB hO hP S1 (fun x x1 x2 x3 x4 x5 => ?_)
    unfold wX8_count
    have ex : rd x 11 0 3 = nI (K + 1) := by
      rw [x1 11 0 3 (by unfold SIn; omega) (by omega), w1.1 11 0 3 (by unfold SIn; omega) (by unfold scr; omega)]
      exact KCy.1
    rw [ex]
    have gx : ∀ f k' q : Nat, ¬ (f = 11 ∨ f = 12 ∨ (f = 10 ∧ k' = 7)) → ¬ (f = 13 ∧ k' = 0) → ¬ SIn 0 f k' → ¬ SIn 1 f k' → ¬ scr f k' q → ¬ SIn (3 + nx) f k' → ¬ (f = 5 ∧ k' = 0 ∧ (q = 1 ∨ q = 2)) → rd x f k' q = rd σ f k' q := fun f k' q n1 n2 n3 n4 n5 n6 n7 => (x1 f k' q n6 n7).trans (gw f k' q n1 n2 n3 n4 n5)
    have ex2 : x.2 = σ.2 := by rw [x2, w1.2, y2, z2, t2]
    have el : ∀ f k' q : Nat, rd (wrL x (nI (K + 1)).toInt64) f k' q = rd x f k' q := fun _ _ _ => rfl
    have gs : ∀ f k' q : Nat, f = 10 ∨ f = 15 → 8 ≤ k' ∨ f = 15 → rd x f k' q = rd σ f k' q := fun f k' q n1 n2 => gx f k' q (by omega) (by omega) (by unfold SIn; omega) (by unfold SIn; omega) (by unfold scr; omega) (by unfold SIn; omega) (by omega)
    show wX13_runScript (wrL x (nI (K + 1)).toInt64) _ _
    refine w_script SG (funext fun q => gs 10 15 q (by omega) (by omega)) ((gs 15 0 17 (by omega) (by omega)).trans T17) (hs ▸ k1) (hs ▸ k2) (fun p p1 p2 p3 => ⟨fun z => absurd (hs ▸ okf) z, fun _ p4 p5 s3 hs3 => ⟨fun _ => w_thr0 ⟨fun _ => ?_, fun q => absurd rfl q⟩, fun q => absurd q (by decide)⟩⟩)
    rw [← hs] at p5
    refine w_keeps (fun v v1 v2 v3 v4 => ⟨K + 1 + 1, ?_⟩)
    have gv : ∀ f k' q : Nat, ¬ (f = 15 ∧ k' = 0 ∧ (q = 7 ∨ q = 17)) → ¬ (f = 10 ∧ k' = 9) → rd v f k' q = rd p f k' q := fun f k' q n1 n2 => by rw [v1 f k' q n2 (by omega), rd_wr, if_neg (by omega), hs3, rd_wr, if_neg (by omega)]
    have gv2 : ∀ f k' q : Nat, ¬ (f = 15 ∧ k' = 0 ∧ (q = 7 ∨ q = 17 ∨ q = 18 ∨ q = 19)) → ¬ (f = 10 ∧ (k' = 9 ∨ k' = 16)) → rd v f k' q = rd x f k' q := fun f k' q n1 n2 => by rw [gv f k' q (by omega) (by omega), p1 f k' q (by omega) (by omega), el]
    refine w_refD (N := K + 1) (by omega) (K + 1) 0 nB nO nP _ mB mO mP a' v rfl R (KF0 p v p5 p4 (fun q => gv 10 16 q (by omega) (by omega)) (gv 15 0 19 (by omega) (by omega))) (funext fun q => (gv2 10 8 q (by omega) (by omega)).trans (gs 10 8 q (by omega) (by omega))) v3 (fun u u1 u2 u3 => ?_)
    have u6 : rd u 15 0 6 = nI nC := by
      rw [u1.1 15 0 6 (by omega) (by omega), gv2 15 0 6 (by omega) (by omega), gs 15 0 6 (by omega) (by omega)]
      exact h6
    have u19 : rd u 15 0 19 = nI (K + 1) := by
      rw [u1.1 15 0 19 (by omega) (by omega), gv 15 0 19 (by omega) (by omega)]
      exact p4
    refine w_ends u3 u6 hN.2.2.1 (fun e e1 e2 e3 e4 => ?_)
    rw [u19]
    have ge : ∀ f k' q : Nat, ¬ (f = 15 ∧ k' = 0 ∧ (q = 6 ∨ q = 7 ∨ q = 10 ∨ q = 17 ∨ q = 18 ∨ q = 19)) → ¬ (f = 10 ∧ (k' = 8 ∨ k' = 9 ∨ k' = 11 ∨ k' = 13 ∨ k' = 16)) → rd e f k' q = rd x f k' q := fun f k' q n1 n2 => by
      rw [e1 f k' q (by omega) (by omega), u1.1 f k' q (by omega) (by omega)]
      exact gv2 f k' q (by omega) (by omega)
    have ec : e.2 = (wrL x (nI (K + 1)).toInt64).2 := by rw [e2, u1.2, v4, wr_2, hs3, wr_2, p2]
    have ec2 : e.2.2.1 = σ.2.2.1 := by
      rw [ec]
      show x.2.2.1 = _
      rw [ex2]
    have e17 : rd e 15 0 17 = nI 0 := by
      rw [e1 15 0 17 (by omega) (by omega), u1.1 15 0 17 (by omega) (by omega), v1 15 0 17 (by omega) (by omega), rd_wr, if_neg (by omega), hs3, rd_wr, if_pos ⟨rfl, rfl, rfl⟩]
      rfl
    refine ⟨?_, fun _ => ?_, t + (K + 1), 0, nL, cN nC, (nx + 1) % 8, by omega, inv_rec J0 (by omega) (Nat.zero_le _) (fun f k' q n0 n1 n2 n3 n4 n5 n6 n7 n8 => ?_) ec2 ?_ ?_ e3 ?_ ?_ (fun i q hi hq => ?_) (fun q hq => ?_) ?_ e17⟩
    · rw [e1 15 0 7 (by omega) (by omega)]
      exact u3
    · show e.2.2.2.1 0 = _
      rw [ec]
      rfl
    · rw [ge f k' q (by omega) (by omega)]
      exact gx f k' q (by omega) (by omega) n0 n1 n3 n2 n4
    · rw [ge 5 0 1 (by omega) (by omega)]
      exact x3
    · rw [ge 5 0 2 (by omega) (by omega)]
      exact x4
    · have ea : rd e 10 8 = a' := by
        rw [← u2]
        exact funext fun q => e1 10 8 q (by omega) (by omega)
      rw [ea]
      exact ⟨mB, mO, mP, F', w2.on fun f k' q hh => (ge f k' q (by unfold SIn at hh; omega) (by unfold SIn at hh; omega)).trans (x1 f k' q (by unfold SIn at hh ⊢; omega) (by unfold SIn at hh; omega))⟩
    · exact ⟨nB, nO, nP, F.mono (by omega), x5.on fun f k' q hh => ge f k' q (by unfold SIn at hh; omega) (by unfold SIn at hh; omega)⟩
    · rw [e4.1 i q hi hq, u1.1 10 11 _ (by omega) (by omega), gv2 10 11 _ (by omega) (by omega), gs 10 11 _ (by omega) (by omega)]
    · rw [e4.2 q hq, u1.1 10 9 q (by omega) (by omega), v2 q hq, rd_wr, if_neg (by omega), hs3, rd_wr, if_neg (by omega), p1 10 8 q (by omega) (by omega), el, gs 10 8 q (by omega) (by omega)]
    · refine Txt.mk (z3.to (fun f q hf => ?_) (by rw [ec2, z2, t2])) (fun i hi => absurd hi (Nat.not_lt_zero _))
      rw [ge f 0 q (by omega) (by omega), x1 f 0 q (by unfold SIn; omega) (by omega), w1.1 f 0 q (by unfold SIn; omega) (by unfold scr; omega), y1 f 0 q (by unfold SIn; omega)]
  · refine w_runF (N := K + 1) (by omega) (K + 1) 0 nB nO nP _ y rfl R KCy Sy Zy (fun w w1 => ⟨fun q => absurd q (nI_nm1 (by omega)), fun _ => ?_⟩)
    have S1 : Same w 1 nB nO nP (rd σ 10 8) := y3.on fun f k' q hh => w1.1 f k' q (by unfold SIn at hh ⊢; omega) (by unfold SIn at hh; unfold scr; omega)
    refine w_stk (k := 0) (k2 := 1) (by decide) (by decide) (by decide) hB hO hP S1 (fun x x1 x2 x3 s15 hs15 => Or.inr ⟨rfl, ?_⟩)
    have gx : ∀ f k' q : Nat, ¬ (f = 11 ∨ f = 12 ∨ (f = 10 ∧ k' = 7)) → ¬ (f = 13 ∧ k' = 0) → ¬ SIn 0 f k' → ¬ SIn 1 f k' → ¬ scr f k' q → ¬ (f = 14 ∧ k' = 0 ∧ q = 12) → rd s15 f k' q = rd σ f k' q := fun f k' q n1 n2 n3 n4 n5 n6 => by
      rw [hs15, rd_wr, if_neg n6, x1 f k' q n3, w1.1 f k' q n3 n5, y1 f k' q n4]
      exact gz f k' q n1 n2
    have ex2 : s15.2 = σ.2 := by rw [hs15, wr_2, x2, w1.2, y2, z2, t2]
    have gs : ∀ f k' q : Nat, f = 10 ∨ f = 15 → 8 ≤ k' ∨ f = 15 → rd s15 f k' q = rd σ f k' q := fun f k' q n1 n2 => gx f k' q (by omega) (by omega) (by unfold SIn; omega) (by unfold SIn; omega) (by unfold scr; omega) (by omega)
    show wX13_runScript s15 _ _
    refine w_script SG (funext fun q => gs 10 15 q (by omega) (by omega)) ((gs 15 0 17 (by omega) (by omega)).trans T17) (hs ▸ k1) (hs ▸ k2) (fun p p1 p2 p3 => ⟨fun z => absurd (hs ▸ okf) z, fun _ p4 p5 s3 hs3 => ⟨fun _ => w_thr0 ⟨fun _ => ?_, fun q => absurd rfl q⟩, fun q => absurd q (by decide)⟩⟩)
    rw [← hs] at p5
    refine w_keeps (fun v v1 v2 v3 v4 => ⟨K + 1 + 1, ?_⟩)
    have gv : ∀ f k' q : Nat, ¬ (f = 15 ∧ k' = 0 ∧ (q = 7 ∨ q = 17)) → ¬ (f = 10 ∧ k' = 9) → rd v f k' q = rd p f k' q := fun f k' q n1 n2 => by rw [v1 f k' q n2 (by omega), rd_wr, if_neg (by omega), hs3, rd_wr, if_neg (by omega)]
    have gv2 : ∀ f k' q : Nat, ¬ (f = 15 ∧ k' = 0 ∧ (q = 7 ∨ q = 17 ∨ q = 18 ∨ q = 19)) → ¬ (f = 10 ∧ (k' = 9 ∨ k' = 16)) → rd v f k' q = rd s15 f k' q := fun f k' q n1 n2 => by rw [gv f k' q (by omega) (by omega), p1 f k' q (by omega) (by omega)]
    refine w_refF (N := K + 1) (by omega) (K + 1) 0 nB nO nP _ v rfl R (KF0 p v p5 p4 (fun q => gv 10 16 q (by omega) (by omega)) (gv 15 0 19 (by omega) (by omega))) (funext fun q => (gv2 10 8 q (by omega) (by omega)).trans (gs 10 8 q (by omega) (by omega))) (fun u u1 => ?_)
    refine w_copies (A := 0) (B := 0) rfl rfl (by decide) (by decide) (by decide) (by decide) (fun e => absurd e (by decide)) (fun c hc s17 hs17 s18 hs18 => ?_)
    have ge : ∀ f k' q : Nat, ¬ (f = 15 ∧ k' = 0 ∧ (q = 7 ∨ q = 9 ∨ q = 10 ∨ q = 17 ∨ q = 18 ∨ q = 19)) → ¬ (f = 10 ∧ (k' = 8 ∨ k' = 9 ∨ k' = 13 ∨ k' = 16)) → rd s18 f k' q = rd s15 f k' q := fun f k' q n1 n2 => by
      rw [hs18, rd_wr, if_neg (by omega), hs17, rd_wr, if_neg (by omega), hc.1, if_neg (by omega), u1.1 f k' q (by omega) (by omega)]
      exact gv2 f k' q (by omega) (by omega)
    have e2 : s18.2 = σ.2 := by rw [hs18, wr_2, hs17, wr_2, hc.2, u1.2, v4, wr_2, hs3, wr_2, p2, ex2]
    have e8 : ∀ i : Nat, i < 90 → rd s18 10 8 i = rd σ 10 8 i := fun i hi => by
      rw [hs18, rd_wr, if_neg (by omega), hs17, rd_wr, if_neg (by omega), hc.1, if_pos ⟨rfl, rfl, by omega, by omega⟩, show 0 + (i - 0) = i by omega, u1.1 10 9 i (by omega) (by omega), v2 i hi, rd_wr, if_neg (by omega), hs3, rd_wr, if_neg (by omega), p1 10 8 i (by omega) (by omega), gs 10 8 i (by omega) (by omega)]
    have e9 : rd s18 15 0 9 = nI m := by rw [hs18, rd_wr, if_neg (by omega), hs17, rd_wr, if_pos ⟨rfl, rfl, rfl⟩]
    refine ⟨?_, fun q => absurd q (by decide), t, 0, nL, nC, nx, by omega, inv_scr J0 (fun f k' q n1 n2 n3 n4 n5 n6 n7 n8 => (ge f k' q (by omega) (by omega)).trans (gx f k' q (by omega) (by omega) n1 n2 n3 (by omega))) (by rw [e2]) ?_ ⟨?_, ?_⟩ ⟨?_, ?_⟩ ?_ ?_⟩
    · rw [hs18, rd_wr, if_pos ⟨rfl, rfl, rfl⟩]
    · refine StOk.on (σ := x) (a := rd σ 10 8) (fun f k' q hh => ?_) e8 ⟨nB, nO, nP, F, x3⟩
      rw [ge f k' q (by unfold SIn at hh; omega) (by unfold SIn at hh; omega), hs15, rd_wr, if_neg (by unfold SIn at hh; omega)]
    · rw [ge 14 0 11 (by omega) (by omega), gx 14 0 11 (by omega) (by omega) (by unfold SIn; omega) (by unfold SIn; omega) (by unfold scr; omega) (by omega), ge 15 0 8 (by omega) (by omega), gs 15 0 8 (by omega) (by omega)]
      exact h8.1
    · rw [ge 15 0 8 (by omega) (by omega), gs 15 0 8 (by omega) (by omega)]
      exact h8.2
    · rw [e9, ge 14 0 12 (by omega) (by omega), hs15, rd_wr, if_pos ⟨rfl, rfl, rfl⟩]
    · rw [e9]
      exact Or.inr (nI_pos' (by omega))
    · refine Txt.mk (z3.to (fun f q hf => ?_) (by rw [e2, z2, t2])) (fun i hi => absurd hi (Nat.not_lt_zero _))
      rw [ge f 0 q (by omega) (by omega), hs15, rd_wr, if_neg (by omega), x1 f 0 q (by unfold SIn; omega), w1.1 f 0 q (by unfold SIn; omega) (by unfold scr; omega), y1 f 0 q (by unfold SIn; omega)]
    · rw [hs18, rd_wr, if_neg (by omega), hs17, rd_wr, if_neg (by omega), hc.1, if_neg (by omega), u1.1 15 0 17 (by omega) (by omega), v1 15 0 17 (by omega) (by omega), rd_wr, if_neg (by omega), hs3, rd_wr, if_pos ⟨rfl, rfl, rfl⟩]
      rfl
