/-! THE SHARE OF LONG PIECES -/
def lgB (f : Nat → Int32) (q : Nat) : Bool := !(decide (f q < 10))
theorem w_longs {n : Nat} {f : Nat → Int32} {σ : Mem} {Q : Int32 → Mem → Prop} {E : String → Mem → Prop} (h9 : rd σ 0 9 1 = nI n) (hn : n ≤ 12) (hf : ∀ q : Nat, q < n → rd σ 1 9 q = f q) (h : Q (nI (cntB (lgB f) n)) σ) : wX10_countLongPieces 0 σ Q E := by
  have key : ∀ m p : Nat, p + m = n → wX10_countLongPieces_4 0 Q E (fun x s => Q x s) (m + 1) (nI (cntB (lgB f) p)) (nI p) σ := by
    intro m
    induction m with
    | zero =>
      intro p hp
      obtain rfl : p = n := by omega
      exact ⟨fun _ => h, fun r => absurd (show rd σ 0 9 1 ≤ nI p from h9 ▸ nI_le (Nat.le_refl p) (by omega)) r⟩
    | succ m ih =>
      intro p hp
      have hh := ih (p + 1) (by omega)
      have ee : cntB (lgB f) (p + 1) = cntB (lgB f) p + (if lgB f p then 1 else 0) := rfl
      refine ⟨fun r => absurd (show nI n ≤ nI p from h9 ▸ r) (nI_ge (by omega) (by omega)), fun _ => ?_⟩
      refine w_get (k := 9) (n := n) (i := p) h9 (by omega) hn rfl ?_
      rw [hf p (by omega)]
      refine ⟨fun r v2 hv2 => ?_, fun r v1 hv1 v2 hv2 => ?_⟩
      · rw [nI_1] at hv2
        rw [ee, if_neg (by simp [lgB, r])] at hh
        rw [hv2]
        exact hh
      · rw [nI_1] at hv1 hv2
        rw [ee, if_pos (by simp [lgB, r])] at hh
        rw [hv1, hv2]
        exact hh
  exact ⟨n + 1, key n 0 (by omega)⟩
theorem w_longsR {n : Nat} {f : Nat → Int32} {σ : Mem} {Q : UInt32 → Mem → Prop} {E : String → Mem → Prop} {X : Int32 → Mem → Prop} (hm : rd σ 10 8 13 = nI n) (hn : n ≤ 12) (hf : ∀ q : Nat, q < n → rd σ 10 8 (78 + q) = f q) (h : X (nI (cntB (lgB f) n)) σ) : ∃ m : Nat, wX13_longShare_4 Q E X m 0 0 σ := by
  have key : ∀ m p : Nat, p + m = n → wX13_longShare_4 Q E X (m + 1) (nI (cntB (lgB f) p)) (nI p) σ := by
    intro m
    induction m with
    | zero =>
      intro p hp
      obtain rfl : p = n := by omega
      exact ⟨fun _ => h, fun r => absurd (show rd σ 10 8 13 ≤ nI p from hm ▸ nI_le (Nat.le_refl p) (by omega)) r⟩
    | succ m ih =>
      intro p hp
      have hh := ih (p + 1) (by omega)
      have ee : cntB (lgB f) (p + 1) = cntB (lgB f) p + (if lgB f p then 1 else 0) := rfl
      refine ⟨fun r => absurd (show nI n ≤ nI p from hm ▸ r) (nI_ge (by omega) (by omega)), fun _ => ⟨(piece_ix (show p < 12 by omega)).1, ?_⟩⟩
      rw [(piece_ix (show p < 12 by omega)).2, hf p (by omega)]
      refine ⟨fun r v1 hv1 v2 hv2 => ?_, fun r v1 hv1 v2 hv2 => ?_⟩
      · rw [nI_1] at hv2
        rw [nI_k0] at hv1
        rw [ee, if_neg (by simp [lgB, r])] at hh
        rw [hv1, hv2]
        exact hh
      · rw [nI_1] at hv1 hv2
        rw [ee, if_pos (by simp [lgB, r])] at hh
        rw [hv1, hv2]
        exact hh
  exact ⟨n + 1, key n 0 (by omega)⟩
theorem cntB_le (P : Nat → Bool) (n : Nat) : cntB P n ≤ n := by
  induction n with
  | zero => exact Nat.le_refl 0
  | succ n ih =>
    show cntB P n + (if P n then 1 else 0) ≤ n + 1
    split <;> omega
theorem share_ok : ∀ c : Nat, c < 13 → ∀ n : Nat, n < 13 → 0 < n → (FP.fdiv (FP.i2f (nI c)) (FP.i2f (nI n)) &&& 0x7fffffff ≤ 0x7f800000 ∧ FP.f2d (FP.fdiv (FP.i2f (nI c)) (FP.i2f (nI n))) &&& 0x7fffffffffffffff ≤ 0x7ff0000000000000) ∧ Op.cmpValue (FP.dcmp (FP.f2d (FP.fdiv (FP.i2f (nI c)) (FP.i2f (nI n)))) (FP.f2d (FP.fdiv (FP.i2f (nI c)) (FP.i2f (nI n))))) .l = 0 := by decide +kernel
theorem pC_46 {j : Nat} {σ : Mem} (I : Inv j σ) : wC_46 σ (Inv (j + 1)) := by
  obtain ⟨t, nB, nO, nP, htj, F, S⟩ := I.st
  have hP := F.1.2.2.1
  have e13 := F.1.2.2.2.2.2
  unfold wC_46 wL_longShare wX12_longShare wX12_testShelf wX13_longShare
  cases nP with
  | zero =>
    refine ⟨fun q => absurd S.2.2.2.1 q, fun _ => ⟨rfl, ?_⟩⟩
    refine w_longsR (n := 0) (f := fun q => rd σ 10 8 (78 + q)) e13 (by decide) (fun q hq => rfl) ?_
    exact ⟨fun q => absurd e13 q, fun _ => w_thr1 ⟨fun q => absurd q (by decide), fun _ => ⟨rfl, fun q => absurd q (by decide), I.to (kp7 σ 1)⟩⟩⟩
  | succ n =>
    refine ⟨fun _ => ?_, fun q => absurd (S.2.2.2.1.symm.trans q) (nI_ne0 (by omega) (by omega))⟩
    refine w_longs (n := n + 1) (f := fun q => rd σ 10 8 (78 + q)) S.2.2.2.1 hP (fun q hq => S.2.2.2.2.2.2 q hq) ?_
    have hc := cntB_le (lgB fun q => rd σ 10 8 (78 + q)) (n + 1)
    obtain ⟨⟨o1, o2⟩, o3⟩ := share_ok (cntB (lgB fun q => rd σ 10 8 (78 + q)) (n + 1)) (by omega) (n + 1) (by omega) (by omega)
    show vf_n32 (FP.fdiv (FP.i2f (nI (cntB (lgB fun q => rd σ 10 8 (78 + q)) (n + 1)))) (FP.i2f (rd σ 0 9 1))) ∧ _
    rw [show rd σ 0 9 1 = nI (n + 1) from S.2.2.2.1]
    refine ⟨o1, o2, ?_⟩
    refine w_longsR (n := n + 1) (f := fun q => rd σ 10 8 (78 + q)) e13 hP (fun q hq => rfl) ?_
    refine ⟨fun _ => w_thr0 ⟨fun _ => ?_, fun q => absurd rfl q⟩, fun q => absurd (e13.symm.trans q) (nI_ne0 (by omega) (by omega))⟩
    rw [show ∀ v : UInt64, rd (wr (wrD σ v) 15 0 7 0) 10 8 13 = nI (n + 1) from fun v => e13]
    exact ⟨o1, rfl, fun _ => ⟨o2, o3⟩, I.to (Kp.wrD.tr (kp7 _ 0))⟩
