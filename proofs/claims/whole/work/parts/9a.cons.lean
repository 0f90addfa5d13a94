/-! CONSISTENCY -/
theorem FrS.kp {σ τ : Mem} (h : FrS σ τ) : Kp σ τ := by
  refine ⟨fun f k s e => h.1 f k s ?_, by rw [h.2]⟩
  unfold scr
  rintro (rfl | rfl | rfl | ⟨rfl, q, q3⟩ | ⟨q, q2⟩)
  · simp [ess] at e
  · simp [ess] at e
  · simp [ess] at e
  · simp [ess] at e
    omega
  · have : f = 0 ∨ f = 1 := by omega
    simp [ess, this] at e
    omega
theorem BCx.onS {σ τ : Mem} {n : Nat} {w s z : Nat → Nat} (h : FrS σ τ) (B : BCx σ n w s z) : BCx τ n w s z := by
  obtain ⟨b1, ⟨b2, b3, b4, b5⟩, b6, b7, b8, b9, b10⟩ := B
  refine ⟨b1, ⟨(h.1 0 0 1 (by unfold scr; omega)).trans b2, (h.1 0 1 1 (by unfold scr; omega)).trans b3, (h.1 0 2 1 (by unfold scr; omega)).trans b4, (h.1 0 4 1 (by unfold scr; omega)).trans b5⟩, fun q hq => ?_, b7, (h.1 10 0 0 (by unfold scr; omega)).trans b8, (h.1 10 1 0 (by unfold scr; omega)).trans b9, (h.1 10 2 0 (by unfold scr; omega)).trans b10⟩
  obtain ⟨c1, c2, c3⟩ := b6 q hq
  exact ⟨(h.1 1 1 q (by unfold scr; omega)).trans c1, (h.1 1 2 q (by unfold scr; omega)).trans c2, (h.1 1 4 q (by unfold scr; omega)).trans c3⟩
theorem TSx.onS {σ τ : Mem} {n : Nat} {T : Nat → Nat} (h : FrS σ τ) (B : TSx σ n T) : TSx τ n T := by
  obtain ⟨b1, b2, b3, b4, b5⟩ := B
  exact ⟨b1, (h.1 0 5 1 (by unfold scr; omega)).trans b2, (h.1 0 8 1 (by unfold scr; omega)).trans b3, fun q hq => ⟨(h.1 1 8 q (by unfold scr; omega)).trans (b4 q hq).1, (b4 q hq).2⟩, (h.1 10 3 0 (by unfold scr; omega)).trans b5⟩
theorem w_agree {n nd sp : Nat} {x1 x2 : Int32} {w s z : Nat → Nat} {σ : Mem} {Q : Int32 → Mem → Prop} {E : String → Mem → Prop} (hx1 : x1 = nI nd) (hx2 : x2 = nI sp) (B : BCx σ n w s z) (h1 : 1 ≤ nd) (hnd : nd ≤ 500) (hsp : sp ≤ 60) (h : ∀ τ : Mem, FrS σ τ → Q 1 τ) : wX12_blendWaysAgree x1 x2 σ Q E := by
  unfold wX12_blendWaysAgree
  refine w_valueSets hx1 hx2 B hnd hsp (fun τ t1 => ?_)
  refine w_valueSearch hx1 hx2 (B.on t1) h1 hnd hsp (fun y y1 => ?_)
  exact ⟨fun q => absurd rfl q, fun _ => h y (t1.s.tr ⟨fun f k s q => y1.1 f k s (by unfold scr at q; omega), y1.2⟩)⟩
theorem pC_47 {j : Nat} {σ : Mem} (I : Inv j σ) (hj : j < 512) : wC_47 σ (Inv (j + 1)) := by
  have hZ := I.z
  obtain ⟨t, nB, nO, nP, htj, F, S⟩ := I.st
  have hP := F.1.2.2.1
  have e13 := F.1.2.2.2.2.2
  obtain ⟨w, s, z, BC, BR⟩ := bal_cx F S hZ
  obtain ⟨m, l, tw, hm, m3, m4, BS, BRt, hT⟩ := tim_cx F S hZ
  obtain ⟨p, p1, p2, p3⟩ := pie_p F (by omega)
  obtain ⟨p', hp', hs', hsum⟩ := F.2.2.2.2.2.2.2.1
  have g8 := F.2.2.2.2.2.2.2.2
  have es : sumN p' nP = sumN p nP := sumN_cg fun q hq => by
    have e1 := (hp' q hq).2
    rw [p2 q hq] at e1
    have b1 := sumN_ge (p := p) hq
    have b2 := sumN_ge (p := p') hq
    exact ((nI_eq (by omega) (by omega)).mp e1).symm
  rw [es] at hsum
  have ref : ∀ τ : Mem, Kp σ τ → wX13_isConsistent τ (fun r2 s2 => 1 = r2 ∧ Inv (j + 1) s2) (fun _ _ => False) := by
    intro τ K s1 h1
    have e8 : ∀ i : Nat, rd s1 10 8 i = rd σ 10 8 i := fun i => by rw [h1, rd_wr, if_neg (by omega)]; exact K.1 10 8 i rfl
    have K1 : Kp σ s1 := by rw [h1]; exact K.tr (kp7 τ 0)
    rw [e8, e8, e8]
    refine ⟨fun q => absurd g8 q, fun _ => ?_⟩
    refine w_onShelf (p := p) ((e8 13).trans e13) hP (fun q hq => (e8 _).trans (p2 q hq)) ?_
    rw [e8, e8, e8, hsum]
    exact ⟨fun q => absurd rfl q, fun _ => ⟨rfl, I.to K1⟩⟩
  unfold wC_47 wX12_isConsistent
  refine w_agree (nd := 1) (sp := 10) rfl rfl BC (by decide) (by decide) (by decide) (fun s2 f2 => ⟨fun q => absurd q (by decide), fun _ => ?_⟩)
  refine w_agree (nd := 20) (sp := 30) rfl rfl (BC.onS f2) (by decide) (by decide) (by decide) (fun s4 f4 => ⟨fun q => absurd q (by decide), fun _ => ?_⟩)
  refine w_agree (nd := 60) (sp := 45) rfl rfl ((BC.onS f2).onS f4) (by decide) (by decide) (by decide) (fun s6 f6 => ⟨fun q => absurd q (by decide), fun _ => ?_⟩)
  have g6 := (f2.tr f4).tr f6
  have r4 : ∀ τ : Mem, FrS σ τ → rd τ 4 0 4 = nI m := fun τ f => (f.1 4 0 4 (by unfold scr; omega)).trans m4
  refine w_bySets (r4 s6 g6) hm (BS.onS g6) (fun s8' c t1 tc t2 => ?_)
  have g8' : FrS σ s8' := g6.tr ⟨fun f k i q => t1.1 f k i (by unfold scr at q; omega), t1.2⟩
  refine w_bySearch (r4 s8' g8') hm.2 (BS.onS g8') (fun s10 c2 u1 u0 u2 uc => ?_)
  have g10 : FrS σ s10 := g8'.tr ⟨fun f k i q => u1 f k i (by unfold scr at q; omega) (by unfold scr at q; omega), u0⟩
  have h1 : ∀ x : Nat, c ≤ x ↔ 1000000 ≤ x ∨ (0 ≤ x ∧ Ach (fun q => l q * tw q) m nO 0 (fun _ => 0) x) := fun x => by
    rw [t2 x, Aj_Ach (by omega)]
    refine ⟨fun q => Or.inr ⟨Nat.zero_le x, q⟩, fun q => ?_⟩
    rcases q with q | q
    · rw [← Aj_Ach (by omega), ← t2 x]
      omega
    · exact q.2
  have ec := (opt_eq h1 u2 (ach_2880 F.1.2.1 (by omega) hT) (by omega) (by omega)).1
  refine ⟨fun q => absurd (congrArg nI ec) q, fun _ => ?_⟩
  have r9 : ∀ τ : Mem, FrS σ τ → rd τ 0 9 1 = nI nP := fun τ f => (f.1 0 9 1 (by unfold scr; omega)).trans S.2.2.2.1
  have r19 : ∀ τ : Mem, FrS σ τ → ∀ q : Nat, q < nP → rd τ 1 9 q = nI (p q) := fun τ f q hq => ((f.1 1 9 q (by unfold scr; omega)).trans (S.2.2.2.2.2.2 q hq)).trans (p2 q hq)
  refine w_table (p := p) hP p3 p1 (r9 s10 g10) (r19 s10 g10) (fun s12 v1 v2 => ?_)
  have g12 : FrS σ s12 := g10.tr ⟨fun f k i q => v1 f k i (by unfold scr at q; omega), v2⟩
  refine w_memory (p := p) hP p3 p1 (r9 s12 g12) (r19 s12 g12) (fun s14 w1 w2 => ?_)
  have g14 : FrS σ s14 := g12.tr ⟨fun f k i q => w1 f k i (by unfold scr at q; omega), w2⟩
  refine ⟨fun q => absurd rfl q, fun _ => ?_⟩
  have rs : ∀ i : Nat, rd s14 4 0 i = rd σ 4 0 i := fun i => g14.1 4 0 i (by unfold scr; omega)
  obtain ⟨z6, z3, z5, z4, z7, z8, z9, z10, z11, y2, y3⟩ := S.1
  show (¬ rd s14 4 0 6 = 1000 - rd s14 4 0 7 + rd s14 4 0 8 → _) ∧ (rd s14 4 0 6 = 1000 - rd s14 4 0 7 + rd s14 4 0 8 → _)
  rw [rs, rs, rs, z6, z7, z8]
  refine ⟨fun q => absurd g8 q, fun _ => ?_⟩
  refine w_sum (k := 9) (p := p) (r9 s14 g14) hP (r19 s14 g14) ?_
  show (¬ nI (sumN p nP) = rd s14 4 0 9 - rd s14 4 0 11 - rd s14 4 0 10 → _) ∧ (nI (sumN p nP) = rd s14 4 0 9 - rd s14 4 0 11 - rd s14 4 0 10 → _)
  rw [rs, rs, rs, z9, z11, z10, hsum]
  exact ⟨fun q => absurd rfl q, fun _ => ref s14 g14.kp⟩
