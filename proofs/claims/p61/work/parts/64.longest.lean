/-! longestPiece -/
def lgP (f : Nat → Int32) : Nat → Nat → Nat → Nat
  | 0, b, _ => b
  | m + 1, b, q => if f q ≤ f b then lgP f m b (q + 1) else lgP f m q (q + 1)
theorem w_largest {k n : Nat} {f : Nat → Int32} {σ : Mem} {Q : Int32 → Mem → Prop} {E : String → Mem → Prop} (hk : rd σ 0 k 1 = nI (n + 1)) (hn : n + 1 ≤ rowCap k) (hf : ∀ q : Nat, q < n + 1 → rd σ 1 k q = f q) (h : Q (nI (lgP f n 0 1)) σ) : wX7_positionOfLargest k σ Q E := by
  have hc := rowCap_le k
  have key : ∀ m q b : Nat, q + m = n + 1 → b < n + 1 → Q (nI (lgP f m b q)) σ → wX7_positionOfLargest_4 k Q E (fun x s => Q x s) (m + 1) (nI b) (nI q) σ := by
    intro m
    induction m with
    | zero =>
      intro q b hq _ hh
      obtain rfl : q = n + 1 := by omega
      exact ⟨fun _ => hh, fun r => absurd (show rd σ 0 k 1 ≤ nI (n + 1) from hk ▸ nI_le (Nat.le_refl _) (by omega)) r⟩
    | succ m ih =>
      intro q b hq hb hh
      refine ⟨fun r => absurd (hk ▸ r) (nI_ge (show q < n + 1 by omega) (by omega)), fun _ => ⟨vp_in_nI (by omega) (by omega), vp_in_nI (by omega) (by omega), ?_⟩⟩
      rw [nI_clamp (by omega), nI_clamp (by omega), hf q (by omega), hf b hb, nI_1]
      unfold lgP at hh
      refine ⟨fun r v hv => ?_, fun r v hv => ?_⟩
      · subst hv
        rw [if_pos r] at hh
        exact ih (q + 1) b (by omega) hb hh
      · subst hv
        rw [if_neg r] at hh
        exact ih (q + 1) q (by omega) (by omega) hh
  exact ⟨n + 1, key n 1 0 (by omega) (by omega) h⟩
