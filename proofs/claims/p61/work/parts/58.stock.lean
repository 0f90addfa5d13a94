/-! A WHOLE STOCK COPIED -/
theorem w_stk {k k2 nB nO nP : Nat} {a : Nat → Int32} {σ : Mem} {Q : Mem → Prop} {E : String → Mem → Prop} (hk : k < 11) (hk2 : k2 < 11) (hne : k2 ≠ k) (hB : nB ≤ 10) (hO : nO ≤ 8) (hP : nP ≤ 12) (S : Same σ k2 nB nO nP a) (h : ∀ τ : Mem, (∀ f k' s : Nat, ¬ SIn k f k' → rd τ f k' s = rd σ f k' s) → τ.2 = σ.2 → Same τ k nB nO nP a → Q τ) : wX10_copyFrom k k2 σ Q E := by
  obtain ⟨⟨z6, z3, z5, z4, z7, z8, z9, z10, z11, y2, y3⟩, r1, r2, r3, b1, b2, b3⟩ := S
  obtain ⟨sz, hsze⟩ : ∃ sz : Nat → Nat, sz = fun i => if i < 5 then nB else if i < 9 then nO else nP := ⟨_, rfl⟩
  have s5 : ∀ i : Nat, i < 5 → sz i = nB := fun i hi => by rw [hsze]; exact if_pos hi
  have s9 : ∀ i : Nat, i < 4 → sz (5 + i) = nO := fun i hi => by rw [hsze]; show (if 5 + i < 5 then nB else if 5 + i < 9 then nO else nP) = nO; rw [if_neg (by omega), if_pos (by omega)]
  have sP : sz 9 = nP := by rw [hsze]; rfl
  have hsz : ∀ i : Nat, i < 10 → rd σ 0 (10 * k2 + i) 1 = nI (sz i) := by
    intro i hi
    by_cases c : i < 5
    · rw [s5 i c]
      exact r1 i c
    · by_cases c2 : i < 9
      · obtain ⟨u, rfl⟩ : ∃ u, i = 5 + u := ⟨i - 5, by omega⟩
        rw [s9 u (by omega), ← Nat.add_assoc]
        exact r2 u (by omega)
      · obtain rfl : i = 9 := by omega
        rw [sP]
        exact r3
  have hc : ∀ i : Nat, i < 10 → sz i ≤ rowCap (10 * k + i) := by
    intro i hi
    rw [rowCap_st hk hi, hsze]
    show (if i < 5 then nB else if i < 9 then nO else nP) ≤ _
    by_cases c : i < 5
    · rw [if_pos c, if_pos c]
      exact hB
    · rw [if_neg c, if_neg c]
      by_cases c2 : i < 9
      · rw [if_pos c2, if_pos c2]
        exact hO
      · rw [if_neg c2, if_neg c2]
        exact hP
  have hn2 : ¬ SIn k 2 k2 := by unfold SIn; omega
  have hn3 : ¬ SIn k 3 k2 := by unfold SIn; omega
  have hn4 : ¬ SIn k 4 k2 := by unfold SIn; omega
  have P0 : PR σ k k2 0 sz (fun f k' s => rd σ f k' s) σ := ⟨fun _ _ _ _ => rfl, fun _ _ _ _ => rfl, fun i' hi' => absurd hi' (Nat.not_lt_zero i'), rfl⟩
  unfold wX10_copyFrom wX1_copyFrom wX5_copyFrom
  refine PR.row (i := 0) hk hk2 hne (by decide) (hsz 0 (by decide)) (hc 0 (by decide)) P0 (fun u0 P1r => ?_)
  refine PR.row (i := 1) hk hk2 hne (by decide) (hsz 1 (by decide)) (hc 1 (by decide)) P1r (fun u1 P2r => ?_)
  refine PR.row (i := 2) hk hk2 hne (by decide) (hsz 2 (by decide)) (hc 2 (by decide)) P2r (fun u2 P3r => ?_)
  refine PR.row (i := 3) hk hk2 hne (by decide) (hsz 3 (by decide)) (hc 3 (by decide)) P3r (fun u3 P4r => ?_)
  refine PR.row (i := 4) hk hk2 hne (by decide) (hsz 4 (by decide)) (hc 4 (by decide)) P4r (fun u4 P5r => ?_)
  intro wa hwa
  rw [P5r.1 2 k2 5 hn2] at hwa
  have Qa := PR.set (f := 2) (s := 5) (v := rd σ 2 k2 5) (Or.inl rfl) P5r
  rw [← hwa] at Qa
  refine PR.row (i := 5) hk hk2 hne (by decide) (hsz 5 (by decide)) (hc 5 (by decide)) Qa (fun u5 P6r => ?_)
  refine PR.row (i := 6) hk hk2 hne (by decide) (hsz 6 (by decide)) (hc 6 (by decide)) P6r (fun u6 P7r => ?_)
  refine PR.row (i := 7) hk hk2 hne (by decide) (hsz 7 (by decide)) (hc 7 (by decide)) P7r (fun u7 P8r => ?_)
  refine PR.row (i := 8) hk hk2 hne (by decide) (hsz 8 (by decide)) (hc 8 (by decide)) P8r (fun u8 P9r => ?_)
  intro wb hwb
  rw [P9r.1 3 k2 4 hn3] at hwb
  have Qb := PR.set (f := 3) (s := 4) (v := rd σ 3 k2 4) (Or.inr (Or.inl rfl)) P9r
  rw [← hwb] at Qb
  refine PR.row (i := 9) hk hk2 hne (by decide) (hsz 9 (by decide)) (hc 9 (by decide)) Qb (fun u9 P10r => ?_)
  intro wc3 hwc3
  rw [P10r.1 4 k2 3 hn4] at hwc3
  have Qc3 := PR.set (f := 4) (s := 3) (v := rd σ 4 k2 3) (Or.inr (Or.inr rfl)) P10r
  rw [← hwc3] at Qc3
  intro wc4 hwc4
  rw [Qc3.1 4 k2 4 hn4] at hwc4
  have Qc4 := PR.set (f := 4) (s := 4) (v := rd σ 4 k2 4) (Or.inr (Or.inr rfl)) Qc3
  rw [← hwc4] at Qc4
  intro wc5 hwc5
  rw [Qc4.1 4 k2 5 hn4] at hwc5
  have Qc5 := PR.set (f := 4) (s := 5) (v := rd σ 4 k2 5) (Or.inr (Or.inr rfl)) Qc4
  rw [← hwc5] at Qc5
  intro wc6 hwc6
  rw [Qc5.1 4 k2 6 hn4] at hwc6
  have Qc6 := PR.set (f := 4) (s := 6) (v := rd σ 4 k2 6) (Or.inr (Or.inr rfl)) Qc5
  rw [← hwc6] at Qc6
  intro wc7 hwc7
  rw [Qc6.1 4 k2 7 hn4] at hwc7
  have Qc7 := PR.set (f := 4) (s := 7) (v := rd σ 4 k2 7) (Or.inr (Or.inr rfl)) Qc6
  rw [← hwc7] at Qc7
  intro wc8 hwc8
  rw [Qc7.1 4 k2 8 hn4] at hwc8
  have Qc8 := PR.set (f := 4) (s := 8) (v := rd σ 4 k2 8) (Or.inr (Or.inr rfl)) Qc7
  rw [← hwc8] at Qc8
  intro wc9 hwc9
  rw [Qc8.1 4 k2 9 hn4] at hwc9
  have Qc9 := PR.set (f := 4) (s := 9) (v := rd σ 4 k2 9) (Or.inr (Or.inr rfl)) Qc8
  rw [← hwc9] at Qc9
  intro wc10 hwc10
  rw [Qc9.1 4 k2 10 hn4] at hwc10
  have Qc10 := PR.set (f := 4) (s := 10) (v := rd σ 4 k2 10) (Or.inr (Or.inr rfl)) Qc9
  rw [← hwc10] at Qc10
  intro wc11 hwc11
  rw [Qc10.1 4 k2 11 hn4] at hwc11
  have Qc11 := PR.set (f := 4) (s := 11) (v := rd σ 4 k2 11) (Or.inr (Or.inr rfl)) Qc10
  rw [← hwc11] at Qc11
  refine h _ Qc11.1 Qc11.2.2.2 ⟨⟨(Qc11.2.1 4 k 6 (by decide)).trans ((show _ = rd σ 4 k2 6 by simp).trans z6), (Qc11.2.1 4 k 3 (by decide)).trans ((show _ = rd σ 4 k2 3 by simp).trans z3), (Qc11.2.1 4 k 5 (by decide)).trans ((show _ = rd σ 4 k2 5 by simp).trans z5), (Qc11.2.1 4 k 4 (by decide)).trans ((show _ = rd σ 4 k2 4 by simp).trans z4), (Qc11.2.1 4 k 7 (by decide)).trans ((show _ = rd σ 4 k2 7 by simp).trans z7), (Qc11.2.1 4 k 8 (by decide)).trans ((show _ = rd σ 4 k2 8 by simp).trans z8), (Qc11.2.1 4 k 9 (by decide)).trans ((show _ = rd σ 4 k2 9 by simp).trans z9), (Qc11.2.1 4 k 10 (by decide)).trans ((show _ = rd σ 4 k2 10 by simp).trans z10), (Qc11.2.1 4 k 11 (by decide)).trans ((show _ = rd σ 4 k2 11 by simp).trans z11), (Qc11.2.1 2 k 5 (by decide)).trans ((show _ = rd σ 2 k2 5 by simp).trans y2), (Qc11.2.1 3 k 4 (by decide)).trans ((show _ = rd σ 3 k2 4 by simp).trans y3)⟩, fun i hi => ?_, fun i hi => ?_, ?_, fun q hq => ?_, fun q hq => ?_, fun q hq => ?_⟩
  · rw [← s5 i hi]
    exact (Qc11.2.2.1 i (by omega)).1
  · rw [← s9 i hi, Nat.add_assoc]
    exact (Qc11.2.2.1 (5 + i) (by omega)).1
  · rw [← sP]
    exact (Qc11.2.2.1 9 (by omega)).1
  · have e := b1 q hq
    exact ⟨((Qc11.2.2.1 0 (by decide)).2 q (by rw [s5 0 (by decide)]; exact hq)).trans e.1, ((Qc11.2.2.1 1 (by decide)).2 q (by rw [s5 1 (by decide)]; exact hq)).trans e.2.1, ((Qc11.2.2.1 2 (by decide)).2 q (by rw [s5 2 (by decide)]; exact hq)).trans e.2.2.1, ((Qc11.2.2.1 3 (by decide)).2 q (by rw [s5 3 (by decide)]; exact hq)).trans e.2.2.2.1, ((Qc11.2.2.1 4 (by decide)).2 q (by rw [s5 4 (by decide)]; exact hq)).trans e.2.2.2.2⟩
  · have e := b2 q hq
    exact ⟨((Qc11.2.2.1 5 (by decide)).2 q (by rw [s9 0 (by decide)]; exact hq)).trans e.1, ((Qc11.2.2.1 6 (by decide)).2 q (by rw [s9 1 (by decide)]; exact hq)).trans e.2.1, ((Qc11.2.2.1 7 (by decide)).2 q (by rw [s9 2 (by decide)]; exact hq)).trans e.2.2.1, ((Qc11.2.2.1 8 (by decide)).2 q (by rw [s9 3 (by decide)]; exact hq)).trans e.2.2.2⟩
  · exact ((Qc11.2.2.1 9 (by decide)).2 q (by rw [sP]; exact hq)).trans (b3 q hq)
