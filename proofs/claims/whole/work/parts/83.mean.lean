/-! THE MEAN LENGTH -/
/-- bits without the sign that are no NaN -/
def okN (k : Nat) : Prop := k % 9223372036854775808 ≤ 9218868437227405312
theorem ok_asm (s : Bool) (e t : Nat) (h : e * 4503599627370496 + t ≤ 9218868437227405312) : okN (FP.Core.assemble FP.Core.b64 s e t) := by
  have h0 : FP.Core.assemble FP.Core.b64 s e t = (s.toNat * 2048 + e) * 4503599627370496 + t := rfl
  unfold okN
  rw [h0]
  cases s
  · show ((0 * 2048 + e) * 4503599627370496 + t) % 9223372036854775808 ≤ 9218868437227405312
    omega
  · show ((1 * 2048 + e) * 4503599627370496 + t) % 9223372036854775808 ≤ 9218868437227405312
    omega
theorem ok_bound (s : Bool) (c : Nat) (q : Int) (h : c < 9007199254740992) : okN (FP.Core.encode FP.Core.b64 (FP.Core.bound FP.Core.b64 s c q)) := by
  have e1 : FP.Core.Fmt.qmax FP.Core.b64 = 971 := by decide +kernel
  have e2 : FP.Core.Fmt.qmin FP.Core.b64 = -1074 := by decide +kernel
  have e3 : FP.Core.Fmt.tails FP.Core.b64 = 4503599627370496 := by decide +kernel
  have e4 : FP.Core.Fmt.exps FP.Core.b64 = 2048 := by decide +kernel
  unfold FP.Core.bound
  by_cases hq : q ≤ FP.Core.Fmt.qmax FP.Core.b64
  · rw [if_pos hq]
    show okN (if c < FP.Core.Fmt.tails FP.Core.b64 then FP.Core.assemble FP.Core.b64 s 0 c else FP.Core.assemble FP.Core.b64 s ((q - FP.Core.Fmt.qmin FP.Core.b64).toNat + 1) (c - FP.Core.Fmt.tails FP.Core.b64))
    rw [e1] at hq
    by_cases hc : c < FP.Core.Fmt.tails FP.Core.b64
    · rw [if_pos hc]
      rw [e3] at hc
      exact ok_asm s 0 c (by omega)
    · rw [if_neg hc]
      rw [e3] at hc ⊢
      rw [e2]
      exact ok_asm s _ _ (by omega)
  · rw [if_neg hq]
    show okN (FP.Core.assemble FP.Core.b64 s (FP.Core.Fmt.exps FP.Core.b64 - 1) 0)
    rw [e4]
    exact ok_asm s _ _ (by omega)
theorem ok_round (s : Bool) (A B : Nat) (e : Int) : okN (FP.Core.encode FP.Core.b64 (FP.Core.roundRatio FP.Core.b64 s A B e)) := by
  have e2 : FP.Core.Fmt.qmin FP.Core.b64 = -1074 := by decide +kernel
  have e3 : FP.Core.Fmt.tails FP.Core.b64 = 4503599627370496 := by decide +kernel
  have e5 : 2 ^ FP.Core.b64.p = 9007199254740992 := by decide +kernel
  unfold FP.Core.roundRatio
  by_cases hA : A = 0
  · rw [if_pos hA]
    show okN (if 0 < FP.Core.Fmt.tails FP.Core.b64 then FP.Core.assemble FP.Core.b64 s 0 0 else FP.Core.assemble FP.Core.b64 s ((FP.Core.Fmt.qmin FP.Core.b64 - FP.Core.Fmt.qmin FP.Core.b64).toNat + 1) (0 - FP.Core.Fmt.tails FP.Core.b64))
    rw [e3, if_pos (by decide)]
    exact ok_asm s 0 0 (by omega)
  · rw [if_neg hA]
    unfold FP.Core.roundAt FP.Core.settle
    rw [e5]
    by_cases hc : FP.Core.nearest (FP.Core.unitsNum A e (FP.Core.quantum FP.Core.b64 A B e)) (FP.Core.unitsDen B e (FP.Core.quantum FP.Core.b64 A B e)) < 9007199254740992
    · rw [if_pos hc]
      exact ok_bound s _ _ hc
    · rw [if_neg hc]
      exact ok_bound s _ _ (by rw [e3]; decide)
theorem ok_mod (k : Nat) : okN k ↔ okN (UInt64.ofNat k).toNat := by
  have h : (UInt64.ofNat k).toNat = k % 18446744073709551616 := UInt64.toNat_ofNat'
  unfold okN
  rw [h]
  omega
theorem ok_num {n : Nat} (h : okN n) : FP.Core.decode FP.Core.b64 n ≠ .nan := by
  have e3 : FP.Core.Fmt.tails FP.Core.b64 = 4503599627370496 := by decide +kernel
  have e4 : FP.Core.Fmt.exps FP.Core.b64 = 2048 := by decide +kernel
  unfold okN at h
  unfold FP.Core.decode FP.Core.fieldE FP.Core.fieldT
  rw [e3, e4]
  by_cases c : n / 4503599627370496 % 2048 = 2048 - 1
  · rw [if_pos c, if_pos (by omega)]
    intro q
    cases q
  · rw [if_neg c]
    split
    · intro q
      cases q
    · intro q
      cases q
theorem ok_vf {r : UInt64} (h : okN r.toNat) : vf_n64 r := by
  unfold vf_n64
  rw [UInt64.le_iff_toNat_le, UInt64.toNat_and]
  have e : (0x7fffffffffffffff : UInt64).toNat = 2 ^ 63 - 1 := by decide
  rw [e, Nat.and_two_pow_sub_one_eq_mod]
  exact h
theorem ok_cmp {r : UInt64} (h : okN r.toNat) : Op.cmpValue (FP.dcmp r r) .l = 0 := by
  have n := ok_num h
  have e : FP.dcmp r r = FP.Core.order (FP.Core.decode FP.Core.b64 r.toNat) (FP.Core.decode FP.Core.b64 r.toNat) := rfl
  rw [e]
  have key : ∀ x : FP.Core.Datum, x ≠ .nan → FP.Core.order x x = some .eq := by
    intro x hx
    cases x with
    | nan => exact absurd rfl hx
    | inf s =>
      show some (compare (FP.Core.signed s 1) (FP.Core.signed s 1)) = some .eq
      cases s <;> rfl
    | fin s c q =>
      show some (compare (FP.Core.signed s (FP.Core.inUnits c q (min q q))) (FP.Core.signed s (FP.Core.inUnits c q (min q q)))) = some .eq
      generalize FP.Core.signed s (FP.Core.inUnits c q (min q q)) = z
      exact congrArg some (Std.ReflCmp.compare_self (cmp := compare))
  rw [key _ n]
  rfl
theorem ok_i2d (a : Int32) : okN (FP.i2d a).toNat := by
  have e : FP.i2d a = UInt64.ofNat (FP.Core.encode FP.Core.b64 (FP.Core.roundRatio FP.Core.b64 (decide (a.toInt < 0)) a.toInt.natAbs 1 0)) := rfl
  rw [e, ← ok_mod]
  exact ok_round _ _ _ _
theorem den_fin : ∀ n : Nat, n < 13 → 0 < n → (match FP.Core.decode FP.Core.b64 (FP.i2d (nI n)).toNat with | .fin _ c _ => c ≠ 0 | _ => False) := by
  have h : ∀ n : Nat, n < 13 → 0 < n → (match FP.Core.decode FP.Core.b64 (FP.i2d (nI n)).toNat with | .fin _ c _ => decide (c ≠ 0) | _ => false) = true := by decide +kernel
  intro n h1 h2
  have := h n h1 h2
  revert this
  cases FP.Core.decode FP.Core.b64 (FP.i2d (nI n)).toNat with
  | nan => intro q; cases q
  | inf s => intro q; cases q
  | fin s c q => intro z; exact of_decide_eq_true z
theorem ok_ddiv (a : Int32) {n : Nat} (h1 : n < 13) (h2 : 0 < n) : okN (FP.ddiv (FP.i2d a) (FP.i2d (nI n))).toNat := by
  have e : FP.ddiv (FP.i2d a) (FP.i2d (nI n)) = UInt64.ofNat (FP.Core.encode FP.Core.b64 (FP.Core.quotient FP.Core.b64 (FP.Core.decode FP.Core.b64 (FP.i2d a).toNat) (FP.Core.decode FP.Core.b64 (FP.i2d (nI n)).toNat))) := rfl
  rw [e, ← ok_mod]
  have hd := den_fin n h1 h2
  have hx := ok_num (ok_i2d a)
  revert hd hx
  cases FP.Core.decode FP.Core.b64 (FP.i2d (nI n)).toNat with
  | nan => intro q; exact q.elim
  | inf s => intro q; exact q.elim
  | fin t d r =>
    intro hd
    cases FP.Core.decode FP.Core.b64 (FP.i2d a).toNat with
    | nan => intro q; exact absurd rfl q
    | inf s =>
      intro _
      exact ok_asm _ _ _ (by decide)
    | fin s c q =>
      intro _
      show okN (FP.Core.encode FP.Core.b64 (if d = 0 then (if c = 0 then .nan else .inf (s != t)) else FP.Core.roundRatio FP.Core.b64 (s != t) c d (q - r)))
      rw [if_neg hd]
      exact ok_round _ _ _ _
theorem pC_45 {j : Nat} {σ : Mem} (I : Inv j σ) : wC_45 σ (Inv (j + 1)) := by
  obtain ⟨t, nB, nO, nP, htj, F, S⟩ := I.st
  have hP := F.1.2.2.1
  have e13 := F.1.2.2.2.2.2
  obtain ⟨p, hp, -, -⟩ := F.2.2.2.2.2.2.2.1
  unfold wC_45 wL_meanLength wX12_meanLength wX12_testShelf wX13_meanLength
  cases nP with
  | zero =>
    refine ⟨fun q => absurd S.2.2.2.1 q, fun _ => ⟨rfl, fun q => absurd e13 q, fun _ => w_thr1 ⟨fun q => absurd q (by decide), fun _ => ⟨rfl, fun q => absurd q (by decide), I.to (kp7 σ 1)⟩⟩⟩⟩
  | succ n =>
    refine ⟨fun _ => ?_, fun q => absurd (S.2.2.2.1.symm.trans q) (nI_ne0 (by omega) (by omega))⟩
    refine w_sum (k := 9) (p := p) S.2.2.2.1 hP (fun q hq => (S.2.2.2.2.2.2 q hq).trans (hp q hq).2) ?_
    have ok := ok_ddiv (nI (sumN p (n + 1))) (n := n + 1) (by omega) (by omega)
    show vf_n64 (FP.ddiv (FP.i2d (nI (sumN p (n + 1)))) (FP.i2d (rd σ 0 9 1))) ∧ _
    rw [show rd σ 0 9 1 = nI (n + 1) from S.2.2.2.1]
    refine ⟨ok_vf ok, fun q => ?_, fun q => absurd (e13.symm.trans q) (nI_ne0 (by omega) (by omega))⟩
    refine w_thr0 ⟨fun _ => ?_, fun q => absurd rfl q⟩
    refine w_onShelf (p := p) e13 hP (fun q hq => (hp q hq).2) ?_
    rw [show ∀ v : UInt64, rd (wr (wrD σ v) 15 0 7 0) 10 8 13 = nI (n + 1) from fun v => e13]
    exact ⟨ok_vf ok, rfl, fun _ => ok_cmp ok, I.to (Kp.wrD.tr (kp7 _ 0))⟩
