/-! COMMANDS READ: the reference -/
def Lt (j : Nat) : Nat := [98, 108, 111, 99, 109, 105, 112, 106, 115].getD j 0
def FR (k : Nat) (σ τ : Mem) : Prop := (∀ f k' q : Nat, ¬ (f = 15 ∧ k' = 0 ∧ (q = 18 ∨ q = 19)) → ¬ (f = 10 ∧ k' = 16 ∧ 4 * k ≤ q ∧ q < 4 * k + 4) → rd τ f k' q = rd σ f k' q) ∧ τ.2 = σ.2
/-- what reading a command ends with -/
def CmR (k p : Nat) (s : Nat → Nat) (σ : Mem) (Q : Int32 → Mem → Prop) : Prop :=
  ∀ τ : Mem, FR k σ τ → rd τ 15 0 18 = nI (cm s p).2 → ((cm s p).1 = false → Q 0 τ) ∧ ((cm s p).1 = true → rd τ 15 0 19 = nI (k + 1) → rd τ 10 16 (4 * k) = nI (Lt (wn s p)) → (∀ q : Nat, q < nn (wn s p) → rd τ 10 16 (4 * k + 1 + q) = nI (av s (dg (wn s p)) q (p + (wt (wn s p)).length))) → Q 1 τ)
theorem CmR.b {k p : Nat} {s : Nat → Nat} {σ : Mem} {Q : Int32 → Mem → Prop} (C : CmR k p s σ Q) : CmR k p s σ (fun r y => (r = 0 ∨ r = 1) ∧ Q r y) := fun τ t1 t2 =>
  ⟨fun f => ⟨Or.inl rfl, (C τ t1 t2).1 f⟩, fun f a b c => ⟨Or.inr rfl, (C τ t1 t2).2 f a b c⟩⟩
/-- the rest of a word, from p1 on -/
theorem cm_tail {s : Nat → Nat} {p p1 W : Nat} {u : List Nat} (hW : wn s p = W) (h9 : W < 9) (e1 : lc s p (wt W) = p1 - p + lc s p1 u) (e2 : p + (wt W).length = p1 + u.length) (hp : p ≤ p1) :
    cm s p = if lc s p1 u < u.length then (false, p1 + lc s p1 u) else ag s (dg W) (nn W) (p1 + u.length) := by
  have hcm : cm s p = if wn s p = 9 then (false, p) else if lc s p (wt (wn s p)) < (wt (wn s p)).length then (false, p + lc s p (wt (wn s p))) else ag s (dg (wn s p)) (nn (wn s p)) (p + (wt (wn s p)).length) := rfl
  rw [hcm, hW, if_neg (by omega), e1, e2]
  by_cases c : lc s p1 u < u.length
  · rw [if_pos c, if_pos (by omega), show p + (p1 - p + lc s p1 u) = p1 + lc s p1 u by omega]
  · rw [if_neg c, if_neg (by omega)]
theorem w_rTail {n k p p1 W wi : Nat} {a : Nat → Int32} {σ y : Mem} {Q : Int32 → Mem → Prop} {E : String → Mem → Prop} {Y : Mem → Prop} (S : Sgs n a) (R : RS n a p1 y) (hp1 : p1 ≤ 200) (C : CmR k p (sg n a) σ Q) (hW : wn (sg n a) p = W) (h9 : W < 9) (hwi : 10 ≤ wi ∧ wi < 19)
    (e1 : lc (sg n a) p (wt W) = p1 - p + lc (sg n a) p1 (rw9 wi)) (e2 : p + (wt W).length = p1 + (rw9 wi).length) (hp : p ≤ p1)
    (F : FR k σ y) (h19 : rd y 15 0 19 = nI (k + 1)) (hL : rd y 10 16 (4 * k) = nI (Lt W))
    (h : ∀ τ : Mem, RS n a (p1 + (rw9 wi).length) τ → ArgF k 0 (nn W) (dg W) (p1 + (rw9 wi).length) (sg n a) τ Q → Y τ) : wX13_isWord wi y (fun (r : Int32) (s : Mem) => ((r = 0 → Q 0 s) ∧ (¬ r = 0 → Y s))) E := by
  have hc := cm_tail hW h9 e1 e2 hp
  unfold CmR at C
  rw [hW] at C
  refine w_rWord S R (by omega) hwi.2 hwi.1 (fun τ t1 t2 => ⟨fun c => ⟨fun _ => ?_, fun z => absurd rfl z⟩, fun c => ⟨fun z => absurd z (by decide), fun _ => ?_⟩⟩)
  · rw [if_pos c] at hc
    rw [hc] at C
    exact (C τ ⟨fun f k' q n1 n2 => (t1.1 f k' q (by omega)).trans (F.1 f k' q n1 n2), t1.2.trans F.2⟩ t2).1 rfl
  · rw [if_neg (by omega)] at hc
    rw [hc] at C
    refine h τ (R.to (fun f k' q hq => t1.1 f k' q (by omega)) (by rw [t2, c])) (fun x x1 x2 x3 => ?_)
    have hnn := (nums_c W h9).2.2.1
    obtain ⟨b1, b2⟩ := C x ⟨fun f k' q n1 n2 => (x1 f k' q (by omega) (by omega)).trans ((t1.1 f k' q (by omega)).trans (F.1 f k' q n1 n2)), x2.trans (t1.2.trans F.2)⟩ x3
    refine ⟨b1, fun f d => b2 f ?_ ?_ (fun q hq => ?_)⟩
    · rw [x1 15 0 19 (by omega) (by omega), t1.1 15 0 19 (by omega)]
      exact h19
    · rw [x1 10 16 (4 * k) (by omega) (by omega), t1.1 10 16 (4 * k) (by omega)]
      exact hL
    · rw [e2]
      exact d q hq
theorem w_rCmd {n k p : Nat} {a : Nat → Int32} {σ : Mem} {Q : Int32 → Mem → Prop} {E : String → Mem → Prop} (S : Sgs n a) (R : RS n a p σ) (hp : p ≤ 100) (hk : k ≤ 20) (h19 : rd σ 15 0 19 = nI k) (C0 : CmR k p (sg n a) σ Q) : wX13_readsCommand σ Q E := by
  intro v1 hv1
  rw [h19, show (4 : Int32) = nI 4 from rfl, pk_mul] at hv1
  subst hv1
  have h200 := S.2.2 p
  have C1 := C0.b
  have hcm : cm (sg n a) p = if wn (sg n a) p = 9 then (false, p) else if lc (sg n a) p (wt (wn (sg n a) p)) < (wt (wn (sg n a) p)).length then (false, p + lc (sg n a) p (wt (wn (sg n a) p))) else ag (sg n a) (dg (wn (sg n a) p)) (nn (wn (sg n a) p)) (p + (wt (wn (sg n a) p)).length) := rfl
  have none : wn (sg n a) p = 9 → Q 0 σ := fun e => by
    rw [if_pos e] at hcm
    unfold CmR at C0
    rw [hcm] at C0
    exact (C0 σ ⟨fun _ _ _ _ _ => rfl, rfl⟩ R.2.2).1 rfl
  obtain ⟨c, hc⟩ : ∃ c, c = sg n a p := ⟨_, rfl⟩
  have n9 : ¬ (c = 98 ∨ c = 115 ∨ c = 111 ∨ c = 99 ∨ c = 109 ∨ c = 106) → wn (sg n a) p = 9 := fun z => by
    unfold wn
    rw [if_neg (by omega), if_neg (by omega), if_neg (by omega), if_neg (by omega), if_neg (by omega), if_neg (by omega)]
  refine w_now S R (by omega) (fun z => ?_) (fun z => ?_)
  · have e := sg_out (a := a) z
    exact ⟨fun y => absurd y (by decide), fun _ => ⟨fun y => absurd y (by decide), fun _ => ⟨fun y => absurd y (by decide), fun _ => ⟨fun y => absurd y (by decide), fun _ => ⟨fun y => absurd y (by decide), fun _ => ⟨fun _ => ⟨fun y => absurd rfl y, fun _ => none (n9 (by omega))⟩, fun y => absurd y (by decide)⟩⟩⟩⟩⟩⟩
  rw [← hc]
  by_cases hcc : c = 98 ∨ c = 115 ∨ c = 111 ∨ c = 99 ∨ c = 109 ∨ c = 106
  rotate_left
  · have q : ∀ v : Nat, v < 200 → ¬ c = v → ¬ nI c = nI v := fun v hv hn z => hn ((nI_eq (by omega) (by omega)).mp z)
    exact ⟨fun y => absurd y (q 98 (by decide) (by omega)), fun _ => ⟨fun y => absurd y (q 115 (by decide) (by omega)), fun _ => ⟨fun y => absurd y (q 111 (by decide) (by omega)), fun _ => ⟨fun y => absurd y (q 99 (by decide) (by omega)), fun _ => ⟨fun y => absurd y (q 109 (by decide) (by omega)), fun _ => ⟨fun _ => ⟨fun y => absurd rfl y, fun _ => none (n9 hcc)⟩, fun y => absurd y (q 106 (by decide) (by omega))⟩⟩⟩⟩⟩⟩
  -- the state behind the first letter
  have rest : ∀ y : Mem, FR k σ y → rd y 15 0 18 = nI (p + 1) → rd y 15 0 19 = nI (k + 1) → rd y 10 16 (4 * k) = nI c → wX13_readsRest (nI c) (nI (4 * k)) y (fun r9 s10 => (r9 = 0 ∨ r9 = 1) ∧ Q r9 s10) E := by
    intro y F f18 f19 fL
    have Ry : RS n a (p + 1) y := R.to (fun f k' q hq => F.1 f k' q (by omega) (by omega)) f18
    have x1 : nI (4 * k) + 1 = nI (4 * k + 1 + 0) := nI_1 _
    have x2 : nI (4 * k) + 2 = nI (4 * k + 1 + 1) := nI_k2 _
    have x3 : nI (4 * k) + 3 = nI (4 * k + 1 + 2) := nI_k3 _
    rcases hcc with rfl | rfl | rfl | rfl | rfl | rfl
    · refine ⟨fun _ => ?_, fun y => absurd y (by decide), fun y => absurd y (by decide), fun y => absurd y (by decide), fun y => absurd y (by decide), fun y => absurd rfl y.1⟩
      have C := C1.b
      unfold wX13_readsB
      refine w_rSign (v := 97) S Ry (by omega) (by decide) (fun ne => ⟨fun _ => ⟨vp_in_nI (show 4 * k < 124 by omega) (by decide), fun s3 hs3 => ?_⟩, fun z => absurd rfl z⟩) (fun e => ⟨fun z => absurd z (by decide), fun _ => ?_⟩)
      · rw [nI_clamp (by omega)] at hs3
        have hW : wn (sg n a) p = 1 := by unfold wn; rw [if_pos hc.symm, if_neg ne]
        have g : ∀ f k' q : Nat, ¬ (f = 15 ∧ k' = 0 ∧ q = 18) → ¬ (f = 10 ∧ k' = 16 ∧ q = 4 * k) → rd s3 f k' q = rd y f k' q := fun f k' q n1 n2 => by rw [hs3, rd_wr, if_neg n2, rd_wr, if_neg n1]
        refine w_rTail (W := 1) (p1 := p + 1) S (Ry.to (fun f k' q hq => g f k' q (by omega) (by omega)) (by rw [hs3, rd_wr, if_neg (by omega), rd_wr, if_pos ⟨rfl, rfl, rfl⟩])) (by omega) C hW (by decide) (by decide) ?_ rfl (by omega) ⟨fun f k' q n1 n2 => (g f k' q (by omega) (by omega)).trans (F.1 f k' q n1 n2), by rw [hs3, wr_2, wr_2]; exact F.2⟩ ((g 15 0 19 (by omega) (by omega)).trans f19) (by rw [hs3, rd_wr, if_pos ⟨rfl, rfl, rfl⟩]; rfl) (fun τ Rτ A => ?_)
        · show lc (sg n a) p (98 :: [108, 101, 110, 100]) = _
          rw [lc_eq hc.symm, show p + 1 - p = 1 by omega]
          rfl
        · refine w_rArg (m := 1) S Rτ (by show p + 1 + 4 ≤ 800; omega) (by decide) rfl (by omega) x1 A (fun p' τ' hp' R' A' => ?_)
          have hp2 : p' ≤ p + 1 + 4 + 4 := hp'
          exact w_rArg (m := 0) S R' (by omega) (by decide) rfl (by omega) x2 A' (fun p'' τ'' _ R'' A'' => A''.done R''.2.2)
      · have hW : wn (sg n a) p = 0 := by unfold wn; rw [if_pos hc.symm, if_pos e]
        have F' := F18.wr y (nI (p + 1 + 1))
        refine w_rTail (W := 0) (p1 := p + 1 + 1) S (Ry.to (fun f k' q hq => F'.1 f k' q (by omega)) (by rw [rd_wr, if_pos ⟨rfl, rfl, rfl⟩])) (by omega) C hW (by decide) (by decide) ?_ rfl (by omega) ⟨fun f k' q n1 n2 => (F'.1 f k' q (by omega)).trans (F.1 f k' q n1 n2), F'.2.trans F.2⟩ ((F'.1 15 0 19 (by omega)).trans f19) ((F'.1 10 16 (4 * k) (by omega)).trans fL) (fun τ Rτ A => ?_)
        · show lc (sg n a) p (98 :: 97 :: [108, 101]) = _
          rw [lc_eq hc.symm, lc_eq e, ← Nat.add_assoc, show p + 1 + 1 - p = 1 + 1 by omega]
          rfl
        · refine w_rArg (m := 2) S Rτ (by show p + 1 + 1 + 2 ≤ 800; omega) (by decide) rfl (by omega) x1 A (fun p' τ' hp' R' A' => ?_)
          have hp2 : p' ≤ p + 1 + 1 + 2 + 4 := hp'
          refine w_rArg (m := 1) S R' (by omega) (by decide) rfl (by omega) x2 A' (fun p'' τ'' hp'' R'' A'' => ?_)
          exact w_rArg (m := 0) S R'' (by omega) (by decide) rfl (by omega) x3 A'' (fun _ _ _ R3 A3 => A3.done R3.2.2)
    · refine ⟨fun y => absurd y (by decide), fun y => absurd y (by decide), fun y => absurd y (by decide), fun y => absurd y (by decide), fun _ => ?_, fun y => absurd rfl y.2.2.2.2⟩
      have C := C1.b
      have hu : wn (sg n a) p = if sg n a (p + 1) = 101 then 8 else if sg n a (p + 1 + 1) = 105 then 5 else 6 := by unfold wn; rw [if_neg (by omega), if_neg (by omega), if_neg (by omega), if_neg (by omega), if_neg (by omega), if_pos hc.symm]
      unfold wX13_readsS
      refine w_rSign (v := 101) S Ry (by omega) (by decide) (fun ne => ⟨fun _ => ?_, fun z => absurd rfl z⟩) (fun e => ⟨fun z => absurd z (by decide), fun _ => ?_⟩)
      rotate_left
      · have hW : wn (sg n a) p = 8 := by rw [hu, if_pos e]
        have F' := F18.wr y (nI (p + 1 + 1))
        refine w_rTail (W := 8) (p1 := p + 1 + 1) S (Ry.to (fun f k' q hq => F'.1 f k' q (by omega)) (by rw [rd_wr, if_pos ⟨rfl, rfl, rfl⟩])) (by omega) C hW (by decide) (by decide) ?_ rfl (by omega) ⟨fun f k' q n1 n2 => (F'.1 f k' q (by omega)).trans (F.1 f k' q n1 n2), F'.2.trans F.2⟩ ((F'.1 15 0 19 (by omega)).trans f19) ((F'.1 10 16 (4 * k) (by omega)).trans fL) (fun τ Rτ A => ?_)
        · show lc (sg n a) p (115 :: 101 :: [108, 108]) = _
          rw [lc_eq hc.symm, lc_eq e, ← Nat.add_assoc, show p + 1 + 1 - p = 1 + 1 by omega]
          rfl
        · exact w_rArg (m := 0) S Rτ (by show p + 1 + 1 + 2 ≤ 800; omega) (by decide) rfl (by omega) x1 A (fun _ _ _ R3 A3 => A3.done R3.2.2)
      have F1 := F18.wr y (nI (p + 1))
      have R1 : RS n a (p + 1) (wr y 15 0 18 (nI (p + 1))) := Ry.to (fun f k' q hq => F1.1 f k' q (by omega)) (by rw [rd_wr, if_pos ⟨rfl, rfl, rfl⟩])
      refine w_rSign (v := 112) S R1 (by omega) (by decide) (fun ne2 => ⟨fun z => absurd rfl z, fun _ => ?_⟩) (fun e2 => ⟨fun _ => ?_, fun z => absurd z (by decide)⟩)
      · -- neither e nor p
        obtain ⟨W, hW⟩ : ∃ W, W = wn (sg n a) p := ⟨_, rfl⟩
        have hl : lc (sg n a) p (wt W) = 1 ∧ 1 < (wt W).length ∧ W < 9 := by
          rw [hW, hu, if_neg ne]
          by_cases c5 : sg n a (p + 1 + 1) = 105
          · rw [if_pos c5]
            refine ⟨?_, by decide, by decide⟩
            show lc (sg n a) p (115 :: 112 :: [105, 110]) = 1
            rw [lc_eq hc.symm, lc_ne ne2]
          · rw [if_neg c5]
            refine ⟨?_, by decide, by decide⟩
            show lc (sg n a) p (115 :: 112 :: [108, 105, 99, 101]) = 1
            rw [lc_eq hc.symm, lc_ne ne2]
        have hcm2 : cm (sg n a) p = (false, p + 1) := by
          rw [hcm, ← hW, if_neg (by omega), if_pos (by omega), hl.1]
        have F2 := F1.tr (F18.wr _ (nI (p + 1)))
        unfold CmR at C
        rw [hcm2] at C
        exact (C _ ⟨fun f k' q n1 n2 => (F2.1 f k' q (by omega)).trans (F.1 f k' q n1 n2), F2.2.trans F.2⟩ (by rw [rd_wr, if_pos ⟨rfl, rfl, rfl⟩])).1 rfl
      have F2 := F1.tr (F18.wr _ (nI (p + 1 + 1)))
      have R2 : RS n a (p + 1 + 1) (wr (wr y 15 0 18 (nI (p + 1))) 15 0 18 (nI (p + 1 + 1))) := Ry.to (fun f k' q hq => F2.1 f k' q (by omega)) (by rw [rd_wr, if_pos ⟨rfl, rfl, rfl⟩])
      have tl : ∀ (W L wi p1 : Nat) (z s7 : Mem), F18 y z → rd z 15 0 18 = nI p1 → wn (sg n a) p = W → W < 9 → (10 ≤ wi ∧ wi < 19) → Lt W = L → nn W = 1 → dg W = 3 → p1 ≤ p + 4 → p ≤ p1 → lc (sg n a) p (wt W) = p1 - p + lc (sg n a) p1 (rw9 wi) → p + (wt W).length = p1 + (rw9 wi).length → s7 = wr z 10 16 (4 * k) (nI L) →
          wX13_isWord wi s7 (fun (r8 : Int32) (s9 : Mem) => ((r8 = 0 → (fun r9 s10 => (r9 = 0 ∨ r9 = 1) ∧ (r9 = 0 ∨ r9 = 1) ∧ Q r9 s10) 0 s9) ∧ (¬ r8 = 0 → wX13_isSpaced 3 (nI (4 * k) + 1) s9 (fun (r10 : Int32) (s11 : Mem) => ((r10 = 0 → (fun r9 s10 => (r9 = 0 ∨ r9 = 1) ∧ (r9 = 0 ∨ r9 = 1) ∧ Q r9 s10) 0 s11) ∧ (¬ r10 = 0 → (fun r9 s10 => (r9 = 0 ∨ r9 = 1) ∧ (r9 = 0 ∨ r9 = 1) ∧ Q r9 s10) 1 s11))) E))) E := by
        intro W L wi p1 z s7 Fz fz hW hW9 hwi hL hnn hdg hp1 hp2 e1 e2' hs7
        have g : ∀ f k' q : Nat, ¬ (f = 15 ∧ k' = 0 ∧ q = 18) → ¬ (f = 10 ∧ k' = 16 ∧ q = 4 * k) → rd s7 f k' q = rd y f k' q := fun f k' q n1 n2 => by rw [hs7, rd_wr, if_neg n2]; exact Fz.1 f k' q n1
        have lw : (rw9 wi).length < 10 := (rwords_c wi hwi.2 hwi.1).2.2
        refine w_rTail (W := W) (p1 := p1) S (Ry.to (fun f k' q hq => g f k' q (by omega) (by omega)) (by rw [hs7, rd_wr, if_neg (by omega)]; exact fz)) (by omega) C hW hW9 hwi e1 e2' hp2 ⟨fun f k' q n1 n2 => (g f k' q (by omega) (by omega)).trans (F.1 f k' q n1 n2), by rw [hs7, wr_2]; exact Fz.2.trans F.2⟩ ((g 15 0 19 (by omega) (by omega)).trans f19) (by rw [hs7, rd_wr, if_pos ⟨rfl, rfl, rfl⟩, hL]) (fun τ Rτ A => ?_)
        rw [hnn, hdg] at A
        exact w_rArg (m := 0) S Rτ (by omega) (by decide) rfl (by omega) x1 A (fun _ _ _ R3 A3 => A3.done R3.2.2)
      refine w_rSign (v := 105) S R2 (by omega) (by decide) (fun ne3 => ⟨fun _ => ⟨vp_in_nI (show 4 * k < 124 by omega) (by decide), fun s7 hs7 => ?_⟩, fun z => absurd rfl z⟩) (fun e3 => ⟨fun z => absurd z (by decide), fun _ => ⟨vp_in_nI (show 4 * k < 124 by omega) (by decide), fun s7 hs7 => ?_⟩⟩)
      · rw [nI_clamp (by omega)] at hs7
        refine tl 6 112 14 (p + 1 + 1) _ s7 (F2.tr (F18.wr _ (nI (p + 1 + 1)))) (by rw [rd_wr, if_pos ⟨rfl, rfl, rfl⟩]) (by rw [hu, if_neg ne, if_neg ne3]) (by decide) (by decide) rfl rfl rfl (by omega) (by omega) ?_ rfl hs7
        show lc (sg n a) p (115 :: 112 :: [108, 105, 99, 101]) = _
        rw [lc_eq hc.symm, lc_eq e2, ← Nat.add_assoc, show p + 1 + 1 - p = 1 + 1 by omega]
        rfl
      · rw [nI_clamp (by omega)] at hs7
        refine tl 5 105 13 (p + 1 + 1 + 1) _ s7 (F2.tr (F18.wr _ (nI (p + 1 + 1 + 1)))) (by rw [rd_wr, if_pos ⟨rfl, rfl, rfl⟩]) (by rw [hu, if_neg ne, if_pos e3]) (by decide) (by decide) rfl rfl rfl (by omega) (by omega) ?_ rfl hs7
        show lc (sg n a) p (115 :: 112 :: 105 :: [110]) = _
        rw [lc_eq hc.symm, lc_eq e2, lc_eq e3, ← Nat.add_assoc, ← Nat.add_assoc, show p + 1 + 1 + 1 - p = 1 + 1 + 1 by omega]
        rfl
    · refine ⟨fun y => absurd y (by decide), fun y => absurd y (by decide), fun y => absurd y (by decide), fun _ => ?_, fun y => absurd y (by decide), fun y => absurd rfl y.2.2.2.1⟩
      have hW : wn (sg n a) p = 2 := by unfold wn; rw [if_neg (by omega), if_pos hc.symm]
      refine w_rTail (W := 2) (p1 := p + 1) S Ry (by omega) C1 hW (by decide) (by decide) ?_ rfl (by omega) F f19 fL (fun τ Rτ A => ?_)
      · show lc (sg n a) p (111 :: [114, 100, 101, 114]) = _
        rw [lc_eq hc.symm, show p + 1 - p = 1 by omega]
        rfl
      · refine w_rArg (m := 1) S Rτ (by show p + 1 + 4 ≤ 800; omega) (by decide) rfl (by omega) x1 A (fun p' τ' hp' R' A' => ?_)
        have hp2 : p' ≤ p + 1 + 4 + 4 := hp'
        exact w_rArg (m := 0) S R' (by omega) (by decide) rfl (by omega) x2 A' (fun p'' τ'' _ R'' A'' => A''.done R''.2.2)
    · refine ⟨fun y => absurd y (by decide), fun _ => ?_, fun y => absurd y (by decide), fun y => absurd y (by decide), fun y => absurd y (by decide), fun y => absurd rfl y.2.1⟩
      have hW : wn (sg n a) p = 3 := by unfold wn; rw [if_neg (by omega), if_neg (by omega), if_pos hc.symm]
      refine w_rTail (W := 3) (p1 := p + 1) S Ry (by omega) C1 hW (by decide) (by decide) ?_ rfl (by omega) F f19 fL (fun τ Rτ A => ?_)
      · show lc (sg n a) p (99 :: [97, 110, 99, 101, 108]) = _
        rw [lc_eq hc.symm, show p + 1 - p = 1 by omega]
        rfl
      · exact w_rArg (m := 0) S Rτ (by show p + 1 + 5 ≤ 800; omega) (by decide) rfl (by omega) x1 A (fun _ _ _ R3 A3 => A3.done R3.2.2)
    · refine ⟨fun y => absurd y (by decide), fun y => absurd y (by decide), fun _ => ?_, fun y => absurd y (by decide), fun y => absurd y (by decide), fun y => absurd rfl y.2.2.1⟩
      have hW : wn (sg n a) p = 4 := by unfold wn; rw [if_neg (by omega), if_neg (by omega), if_neg (by omega), if_pos hc.symm]
      refine w_rTail (W := 4) (p1 := p + 1) S Ry (by omega) C1 hW (by decide) (by decide) ?_ rfl (by omega) F f19 fL (fun τ Rτ A => ?_)
      · show lc (sg n a) p (109 :: [97, 99, 104, 105, 110, 101, 115]) = _
        rw [lc_eq hc.symm, show p + 1 - p = 1 by omega]
        rfl
      · exact w_rArg (m := 0) S Rτ (by show p + 1 + 7 ≤ 800; omega) (by decide) rfl (by omega) x1 A (fun _ _ _ R3 A3 => A3.done R3.2.2)
    · refine ⟨fun y => absurd y (by decide), fun y => absurd y (by decide), fun y => absurd y (by decide), fun y => absurd y (by decide), fun y => absurd y (by decide), fun _ => ?_⟩
      have hW : wn (sg n a) p = 7 := by unfold wn; rw [if_neg (by omega), if_neg (by omega), if_neg (by omega), if_neg (by omega), if_pos hc.symm]
      have hct := cm_tail (s := sg n a) (p1 := p + 1) (u := rw9 18) hW (by decide) (by
        show lc (sg n a) p (106 :: [111, 105, 110]) = _
        rw [lc_eq hc.symm, show p + 1 - p = 1 by omega]
        rfl) rfl (by omega)
      have C := C1.b
      unfold CmR at C
      rw [hW] at C
      refine w_rWord S Ry (by omega) (by decide) (by decide) (fun τ t1 t2 => ⟨fun c => ?_, fun c => ?_⟩)
      · rw [if_pos c] at hct
        rw [hct] at C
        exact (C τ ⟨fun f k' q n1 n2 => (t1.1 f k' q (by omega)).trans (F.1 f k' q n1 n2), t1.2.trans F.2⟩ t2).1 rfl
      · rw [if_neg (by omega)] at hct
        rw [hct] at C
        refine (C τ ⟨fun f k' q n1 n2 => (t1.1 f k' q (by omega)).trans (F.1 f k' q n1 n2), t1.2.trans F.2⟩ (by rw [t2, c]; rfl)).2 rfl ((t1.1 15 0 19 (by omega)).trans f19) ((t1.1 10 16 (4 * k) (by omega)).trans fL) (fun q hq => absurd hq (Nat.not_lt_zero _))
  have go : (∀ s6 : Mem, s6 = wr σ 10 16 (nI (4 * k)).toNatClampNeg (nI c) → ∀ s7 : Mem, s7 = wr s6 15 0 18 ((rd s6 15 0 18) + 1) → ∀ s8 : Mem, s8 = wr s7 15 0 19 ((rd s7 15 0 19) + 1) → wX13_readsRest (nI c) (nI (4 * k)) s8 (fun (r9 : Int32) (s10 : Mem) => (r9 = 0 ∨ r9 = 1) ∧ Q r9 s10) E) := by
    intro s6 hs6 s7 hs7 s8 hs8
    rw [nI_clamp (by omega)] at hs6
    have a18 : rd s6 15 0 18 = nI p := by rw [hs6, rd_wr, if_neg (by omega)]; exact R.2.2
    rw [a18, nI_1] at hs7
    have a19 : rd s7 15 0 19 = nI k := by rw [hs7, rd_wr, if_neg (by omega), hs6, rd_wr, if_neg (by omega)]; exact h19
    rw [a19, nI_1] at hs8
    refine rest s8 ⟨fun f k' q n1 n2 => ?_, ?_⟩ ?_ ?_ ?_
    · rw [hs8, rd_wr, if_neg (by omega), hs7, rd_wr, if_neg (by omega), hs6, rd_wr, if_neg (by omega)]
    · rw [hs8, wr_2, hs7, wr_2, hs6, wr_2]
    · rw [hs8, rd_wr, if_neg (by omega), hs7, rd_wr, if_pos ⟨rfl, rfl, rfl⟩]
    · rw [hs8, rd_wr, if_pos ⟨rfl, rfl, rfl⟩]
    · rw [hs8, rd_wr, if_neg (by omega), hs7, rd_wr, if_neg (by omega), hs6, rd_wr, if_pos ⟨rfl, rfl, rfl⟩]
  have last : (¬ (1 : Int32) = 0 → vp_in (nI (4 * k)) (iaLen 16) ∧ ∀ s6 : Mem, s6 = wr σ 10 16 (nI (4 * k)).toNatClampNeg (nI c) → ∀ s7 : Mem, s7 = wr s6 15 0 18 ((rd s6 15 0 18) + 1) → ∀ s8 : Mem, s8 = wr s7 15 0 19 ((rd s7 15 0 19) + 1) → wX13_readsRest (nI c) (nI (4 * k)) s8 (fun (r9 : Int32) (s10 : Mem) => (r9 = 0 ∨ r9 = 1) ∧ Q r9 s10) E) ∧ ((1 : Int32) = 0 → Q 0 σ) :=
    ⟨fun _ => ⟨vp_in_nI (show 4 * k < 124 by omega) (by decide), go⟩, fun z => absurd z (by decide)⟩
  exact ⟨fun _ => last, fun y1 => ⟨fun _ => last, fun y2 => ⟨fun _ => last, fun y3 => ⟨fun _ => last, fun y4 => ⟨fun _ => last, fun y5 => ⟨fun y6 => by
    exfalso
    have q : ∀ v : Nat, v < 200 → ¬ nI c = nI v → ¬ c = v := fun v hv hn z => hn (by rw [z])
    have := q 98 (by decide) y1
    have := q 115 (by decide) y2
    have := q 111 (by decide) y3
    have := q 99 (by decide) y4
    have := q 109 (by decide) y5
    have := q 106 (by decide) y6
    omega, fun _ => last⟩⟩⟩⟩⟩⟩
