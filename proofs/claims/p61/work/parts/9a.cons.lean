/-! CONSISTENCY -/
theorem BCx.onS {σ τ : Mem} {n : Nat} {w s z : Nat → Nat} (h : FrS σ τ) (B : BCx σ n w s z) : BCx τ n w s z := by
  obtain ⟨b1, ⟨b2, b3, b4, b5⟩, b6, b7, b8, b9, b10⟩ := B
  refine ⟨b1, ⟨(h.1 0 0 1 (by unfold scc; omega)).trans b2, (h.1 0 1 1 (by unfold scc; omega)).trans b3, (h.1 0 2 1 (by unfold scc; omega)).trans b4, (h.1 0 4 1 (by unfold scc; omega)).trans b5⟩, fun q hq => ?_, b7, (h.1 10 0 0 (by unfold scc; omega)).trans b8, (h.1 10 1 0 (by unfold scc; omega)).trans b9, (h.1 10 2 0 (by unfold scc; omega)).trans b10⟩
  obtain ⟨c1, c2, c3⟩ := b6 q hq
  exact ⟨(h.1 1 1 q (by unfold scc; omega)).trans c1, (h.1 1 2 q (by unfold scc; omega)).trans c2, (h.1 1 4 q (by unfold scc; omega)).trans c3⟩
theorem TSx.onS {σ τ : Mem} {n : Nat} {T : Nat → Nat} (h : FrS σ τ) (B : TSx σ n T) : TSx τ n T := by
  obtain ⟨b1, b2, b3, b4, b5⟩ := B
  exact ⟨b1, (h.1 0 5 1 (by unfold scc; omega)).trans b2, (h.1 0 8 1 (by unfold scc; omega)).trans b3, fun q hq => ⟨(h.1 1 8 q (by unfold scc; omega)).trans (b4 q hq).1, (b4 q hq).2⟩, (h.1 10 3 0 (by unfold scc; omega)).trans b5⟩
theorem w_agree {n nd sp : Nat} {x1 x2 : Int32} {w s z : Nat → Nat} {σ : Mem} {Q : Int32 → Mem → Prop} {E : String → Mem → Prop} (hx1 : x1 = nI nd) (hx2 : x2 = nI sp) (B : BCx σ n w s z) (h1 : 1 ≤ nd) (hnd : nd ≤ 500) (hsp : sp ≤ 60) (h : ∀ τ : Mem, FrS σ τ → Q 1 τ) : wX12_blendWaysAgree x1 x2 σ Q E := by
  unfold wX12_blendWaysAgree
  refine w_valueSets hx1 hx2 B hnd hsp (fun τ t1 => ?_)
  refine w_valueSearch hx1 hx2 (B.on t1) h1 hnd hsp (fun y y1 => ?_)
  exact ⟨fun q => absurd rfl q, fun _ => h y (t1.s.tr ⟨fun f k s q => y1.1 f k s (by unfold scc at q; omega), y1.2⟩)⟩
