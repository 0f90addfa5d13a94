/-! longestPiece -/
def lgP (f : Nat → Int32) : Nat → Nat → Nat → Nat
  | 0, b, _ => b
  | m + 1, b, q => if f q ≤ f b then lgP f m b (q + 1) else lgP f m q (q + 1)
theorem w_largest {k n : Nat} {f : Nat → Int32} {σ : Mem} {Q : Int32 → Mem → Prop} {E : String → Mem → Prop} (hk : rd σ 0 k 1 = nI (n + 1)) (hn : n + 1 ≤ rowCap k) (hf : ∀ q : Nat, q < n + 1 → rd σ 1 k q = f q) (h : Q (nI (lgP f n 0 1)) σ) : wX7_positionOfLargest k σ Q E := by
  have hc := rowCap_le k
  have key : ∀ m q b : Nat, q + m = n + 1 → b < n + 1 → Q (nI (lgP f m b q)) σ → wX7_positionOfLargest_4 k Q E (fun x s => Q x s) (m + 1) (nI b) (nI q) σ := by
    intro m
    induction m with
    | zero =>
      intro q b hq _ hh
      obtain rfl : q = n + 1 := by omega
      exact ⟨fun _ => hh, fun r => absurd (show rd σ 0 k 1 ≤ nI (n + 1) from hk ▸ nI_le (Nat.le_refl _) (by omega)) r⟩
    | succ m ih =>
      intro q b hq hb hh
      refine ⟨fun r => absurd (hk ▸ r) (nI_ge (show q < n + 1 by omega) (by omega)), fun _ => ⟨vp_in_nI (by omega) (by omega), vp_in_nI (by omega) (by omega), ?_⟩⟩
      rw [nI_clamp (by omega), nI_clamp (by omega), hf q (by omega), hf b hb, nI_1]
      unfold lgP at hh
      refine ⟨fun r v hv => ?_, fun r v hv => ?_⟩
      · subst hv
        rw [if_pos r] at hh
        exact ih (q + 1) b (by omega) hb hh
      · subst hv
        rw [if_neg r] at hh
        exact ih (q + 1) q (by omega) (by omega) hh
  exact ⟨n + 1, key n 1 0 (by omega) (by omega) h⟩
theorem pC_30 {j : Nat} {σ : Mem} (I : Inv j σ) : wC_30 σ (Inv (j + 1)) := by
  obtain ⟨t, nB, nO, nP, -, F, S⟩ := I.st
  have hP := F.1.2.2.1
  have hn := F.1.2.2.2.2.2
  unfold wC_30 wL_longestPiece wX12_longestPiece wX7_size
  cases nP with
  | zero =>
    refine ⟨fun q => absurd S.2.2.2.1 q, fun _ => ⟨rfl, ?_⟩⟩
    unfold wX13_longestPiece
    refine ⟨1, fun _ => ⟨fun q => absurd hn q, fun _ => w_thr1 ⟨fun q => absurd q (by decide), fun _ => ⟨rfl, fun q => absurd q (by decide), I.to (kp7 σ 1)⟩⟩⟩, fun q => absurd (show rd σ 10 8 13 ≤ 1 by rw [hn]; decide) q⟩
  | succ n =>
    refine ⟨fun _ => ?_, fun q => absurd (S.2.2.2.1.symm.trans q) (nI_ne0 (by omega) (by omega))⟩
    refine w_largest (k := 9) (f := fun q => rd σ 10 8 (78 + q)) S.2.2.2.1 hP (fun q hq => S.2.2.2.2.2.2 q hq) ?_
    have key : ∀ (x : Int32) (m q b : Nat), q + m = n + 1 → b < n + 1 → x = nI (lgP (fun q => rd σ 10 8 (78 + q)) m b q) → wX13_longestPiece_4 (fun (bb : Int32) (s1 : Mem) => wX13_thrown s1 (fun (t : Int32) (s2 : Mem) => t = 0 ∧ ((0 : Int32) = 0 → rdL s2 = bb.toInt64) ∧ Inv (j + 1) s2) (fun _ _ => False)) (fun _ _ => False) (fun (x1_3 : Int32) (s4 : Mem) => ((¬ rd s4 10 8 13 = 0 → wX13_isThrown 0 1 s4 (fun (r5 : Int32) (s6 : Mem) => ((r5 = 0 → wX13_thrown s6 (fun (t : Int32) (s2 : Mem) => t = 0 ∧ ((0 : Int32) = 0 → rdL s2 = x1_3.toInt64) ∧ Inv (j + 1) s2) (fun _ _ => False)) ∧ (¬ r5 = 0 → wX13_thrown s6 (fun (t : Int32) (s2 : Mem) => t = 0 ∧ ((0 : Int32) = 0 → rdL s2 = (0 : Int32).toInt64) ∧ Inv (j + 1) s2) (fun _ _ => False)))) (fun _ _ => False)) ∧ (rd s4 10 8 13 = 0 → wX13_isThrown 1 1 s4 (fun (r7 : Int32) (s8 : Mem) => ((r7 = 0 → wX13_thrown s8 (fun (t : Int32) (s2 : Mem) => t = 0 ∧ ((0 : Int32) = 0 → rdL s2 = x1_3.toInt64) ∧ Inv (j + 1) s2) (fun _ _ => False)) ∧ (¬ r7 = 0 → wX13_thrown s8 (fun (t : Int32) (s2 : Mem) => t = 0 ∧ ((0 : Int32) = 0 → rdL s2 = (0 : Int32).toInt64) ∧ Inv (j + 1) s2) (fun _ _ => False)))) (fun _ _ => False)))) (m + 1) (nI b) (nI q) (wrL σ x.toInt64) := by
      intro x m
      induction m with
      | zero =>
        intro q b hq _ hx
        obtain rfl : q = n + 1 := by omega
        refine ⟨fun _ => ⟨fun _ => w_thr0 ⟨fun _ => ⟨rfl, fun _ => ?_, I.to (kpThr σ _ 0)⟩, fun q => absurd rfl q⟩, fun q => absurd (hn.symm.trans q) (nI_ne0 (by omega) (by omega))⟩, fun r => absurd (show rd σ 10 8 13 ≤ nI (n + 1) from hn ▸ nI_le (Nat.le_refl _) (by omega)) r⟩
        exact congrArg Int32.toInt64 hx
      | succ m ih =>
        intro q b hq hb hx
        refine ⟨fun r => absurd (hn ▸ r : nI (n + 1) ≤ nI q) (nI_ge (show q < n + 1 by omega) (by omega)), fun _ => ⟨(piece_ix (show q < 12 by omega)).1, (piece_ix (show b < 12 by omega)).1, ?_⟩⟩
        rw [(piece_ix (show q < 12 by omega)).2, (piece_ix (show b < 12 by omega)).2, nI_1]
        unfold lgP at hx
        refine ⟨fun r v hv => ?_, fun r v hv => ?_⟩
        · subst hv
          rw [if_pos (show rd σ 10 8 (78 + q) ≤ rd σ 10 8 (78 + b) from r)] at hx
          exact ih (q + 1) b (by omega) hb hx
        · subst hv
          rw [if_neg (show ¬ rd σ 10 8 (78 + q) ≤ rd σ 10 8 (78 + b) from r)] at hx
          exact ih (q + 1) q (by omega) (by omega) hx
    exact ⟨n + 1, key _ n 1 0 (by omega) (by omega) rfl⟩
