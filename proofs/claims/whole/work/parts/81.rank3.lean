/-! RANKS OF BALES -/
theorem bal_wsp {t nB nO nP : Nat} {a : Nat → Int32} (F : Fits t nB nO nP a) : ∃ w s p : Nat → Nat, ∀ q : Nat, q < nB → a (15 + 4 * q) = nI (w q) ∧ a (16 + 4 * q) = nI (s q) ∧ a (17 + 4 * q) = nI (p q) ∧ (1 ≤ w q ∧ w q ≤ 50) ∧ (10 ≤ s q ∧ s q ≤ 60) ∧ 1 ≤ p q ∧ p q ≤ 20 := by
  have g := F.2.2.2.2.2.1
  refine ⟨fun q => (a (15 + 4 * q)).toNatClampNeg, fun q => (a (16 + 4 * q)).toNatClampNeg, fun q => (a (17 + 4 * q)).toNatClampNeg, fun q hq => ?_⟩
  obtain ⟨-, ⟨l, l1, l2, l3⟩, ⟨w, w1, w2, w3⟩, z, z1, z2, z3⟩ := g q hq
  show a (15 + 4 * q) = nI (a (15 + 4 * q)).toNatClampNeg ∧ a (16 + 4 * q) = nI (a (16 + 4 * q)).toNatClampNeg ∧ a (17 + 4 * q) = nI (a (17 + 4 * q)).toNatClampNeg ∧ (1 ≤ (a (15 + 4 * q)).toNatClampNeg ∧ (a (15 + 4 * q)).toNatClampNeg ≤ 50) ∧ (10 ≤ (a (16 + 4 * q)).toNatClampNeg ∧ (a (16 + 4 * q)).toNatClampNeg ≤ 60) ∧ 1 ≤ (a (17 + 4 * q)).toNatClampNeg ∧ (a (17 + 4 * q)).toNatClampNeg ≤ 20
  rw [l3, w3, z3, nI_clamp (by omega), nI_clamp (by omega), nI_clamp (by omega)]
  exact ⟨rfl, rfl, rfl, ⟨l1, l2⟩, ⟨w1, w2⟩, z1, z2⟩
theorem w_putKeysB {n : Nat} {σ : Mem} {Q : Mem → Prop} {E : String → Mem → Prop} (h0 : rd σ 0 0 1 = nI n) (h2 : rd σ 0 2 1 = nI n) (h4 : rd σ 0 4 1 = nI n) (hn : n ≤ 10)
    (h : ∀ τ : Mem, (∀ f k s : Nat, ¬ (f ≤ 1 ∧ k = 110) → rd τ f k s = rd σ f k s) → τ.2 = σ.2 → rd τ 0 110 1 = nI n → (∀ q : Nat, q < n → rd τ 1 110 q = -(rd σ 1 4 q * 61 + rd σ 1 2 q)) → Q τ) : wX1_putKeys 0 σ Q E := by
  have key : ∀ (m v : Nat) (σ' : Mem), v + m = n → (∀ f k s : Nat, ¬ (f ≤ 1 ∧ k = 110) → rd σ' f k s = rd σ f k s) → σ'.2 = σ.2 → rd σ' 0 110 1 = nI v → (∀ q : Nat, q < v → rd σ' 1 110 q = -(rd σ 1 4 q * 61 + rd σ 1 2 q)) → wX1_putKeys_6 0 Q E (fun s => Q s) (m + 1) (nI v) σ' := by
    intro m
    induction m with
    | zero =>
      intro v σ' hv p1 p2 p3 p4
      obtain rfl : v = n := by omega
      have e5 : rd σ' 0 0 1 = nI v := (p1 0 0 1 (by omega)).trans h0
      exact ⟨fun _ => h σ' p1 p2 p3 p4, fun r => absurd (show rd σ' 0 0 1 ≤ nI v from e5 ▸ nI_le (Nat.le_refl v) (by omega)) r⟩
    | succ m ih =>
      intro v σ' hv p1 p2 p3 p4
      have e5 : rd σ' 0 0 1 = nI n := (p1 0 0 1 (by omega)).trans h0
      refine ⟨fun r => absurd (show nI n ≤ nI v from e5 ▸ r) (nI_ge (by omega) (by omega)), fun _ => ?_⟩
      refine w_get (k := 4) (n := n) (i := v) ((p1 0 4 1 (by omega)).trans h4) (by omega) hn rfl ?_
      refine w_get (k := 2) (n := n) (i := v) ((p1 0 2 1 (by omega)).trans h2) (by omega) hn rfl ?_
      refine w_add (k := 110) (n := v) p3 (show v < 12 by omega) (fun τ t1 t2 t3 t4 x hx => ?_)
      rw [nI_1] at hx
      subst hx
      refine ih (v + 1) τ (by omega) (fun f k s n => (t1 f k s n).trans (p1 f k s n)) (t2.trans p2) t3 (fun q hq => ?_)
      rw [t4]
      by_cases c : q = v
      · subst c
        rw [if_pos rfl, p1 1 4 q (by omega), p1 1 2 q (by omega)]
      · rw [if_neg c]
        exact p4 q (by omega)
  intro s1 hs1
  refine ⟨n + 1, key n 0 s1 (by omega) (fun f k s n => by rw [hs1, rd_wr, if_neg (by omega)]) (by rw [hs1]; rfl) (by rw [hs1, rd_wr, if_pos ⟨rfl, rfl, rfl⟩]; rfl) (fun q hq => absurd hq (Nat.not_lt_zero q))⟩
/-- value and staple in one number -/
def vT (w s p : Nat → Nat) (q : Nat) : Nat := w q * p q * 61 + s q
theorem w_dearer {o p : Nat} {w s z : Nat → Nat} {σ : Mem} {Q : Int32 → Mem → Prop} {E : String → Mem → Prop} (ho : o < 10) (hp : p < 10)
    (bo : rd σ 10 8 (15 + 4 * o) = nI (w o) ∧ rd σ 10 8 (16 + 4 * o) = nI (s o) ∧ rd σ 10 8 (17 + 4 * o) = nI (z o) ∧ (1 ≤ w o ∧ w o ≤ 50) ∧ (10 ≤ s o ∧ s o ≤ 60) ∧ 1 ≤ z o ∧ z o ≤ 20)
    (bp : rd σ 10 8 (15 + 4 * p) = nI (w p) ∧ rd σ 10 8 (16 + 4 * p) = nI (s p) ∧ rd σ 10 8 (17 + 4 * p) = nI (z p) ∧ (1 ≤ w p ∧ w p ≤ 50) ∧ (10 ≤ s p ∧ s p ≤ 60) ∧ 1 ≤ z p ∧ z p ≤ 20)
    (h1 : vT w s z p < vT w s z o ∨ (vT w s z p = vT w s z o ∧ o < p) → Q 1 σ) (h0 : ¬ (vT w s z p < vT w s z o ∨ (vT w s z p = vT w s z o ∧ o < p)) → Q 0 σ) : wX13_isDearer (nI o) (nI p) σ Q E := by
  obtain ⟨o1, o2, o3, ⟨-, o4⟩, ⟨o5, o6⟩, -, o7⟩ := bo
  obtain ⟨p1, p2, p3, ⟨-, p4⟩, ⟨p5, p6⟩, -, p7⟩ := bp
  have mo : w o * z o ≤ 1000 := Nat.mul_le_mul o4 o7
  have mp : w p * z p ≤ 1000 := Nat.mul_le_mul p4 p7
  unfold vT at h1 h0
  refine w_ofBale (i := o) (d := 1) ho (by decide) rfl rfl (w_ofBale (i := o) (d := 3) ho (by decide) rfl rfl (w_ofBale (i := p) (d := 1) hp (by decide) rfl rfl (w_ofBale (i := p) (d := 3) hp (by decide) rfl rfl (fun v hv => ?_))))
  rw [show 14 + 4 * o + 1 = 15 + 4 * o by omega, show 14 + 4 * o + 3 = 17 + 4 * o by omega, show 14 + 4 * p + 1 = 15 + 4 * p by omega, show 14 + 4 * p + 3 = 17 + 4 * p by omega, o1, o3, p1, p3, pk_mul, pk_mul] at hv
  have hsub := pk_sub_toInt (a := w o * z o) (b := w p * z p) (by omega) (by omega)
  rw [← hv] at hsub
  have z0 : (0 : Int32).toInt = 0 := by decide
  generalize w o * z o = A at *
  generalize w p * z p = B at *
  refine ⟨fun r => ?_, fun r => ?_⟩
  · have e : A = B := by
      rw [r, z0] at hsub
      omega
    subst e
    refine w_ofBale (i := o) (d := 2) ho (by decide) rfl rfl (w_ofBale (i := p) (d := 2) hp (by decide) rfl rfl ?_)
    rw [show 14 + 4 * o + 2 = 16 + 4 * o by omega, show 14 + 4 * p + 2 = 16 + 4 * p by omega, o2, p2, nI_eq (by omega) (by omega), nI_leI (by omega) (by omega)]
    refine ⟨fun r2 => ⟨fun r3 => h0 (by omega), fun r3 => h1 (by omega)⟩, fun r2 => ?_⟩
    refine w_ofBale (i := o) (d := 2) ho (by decide) rfl rfl (w_ofBale (i := p) (d := 2) hp (by decide) rfl rfl ?_)
    rw [show 14 + 4 * o + 2 = 16 + 4 * o by omega, show 14 + 4 * p + 2 = 16 + 4 * p by omega, o2, p2, nI_leI (by omega) (by omega)]
    exact ⟨fun r3 => h0 (by omega), fun r3 => h1 (by omega)⟩
  · have e : A ≠ B := by
      intro e
      apply r
      rw [← Int32.toInt_inj, hsub, z0]
      omega
    rw [Int32.le_iff_toInt_le, hsub, z0]
    exact ⟨fun r3 => h0 (by omega), fun r3 => h1 (by omega)⟩
theorem w_bbv18 {n p : Nat} {v1 : Int32} {σ : Mem} {Q : Int32 → Mem → Prop} {E : String → Mem → Prop} {X : Int32 → Int32 → Int32 → Mem → Prop} {f : Nat → Int32} {w s z : Nat → Nat} (hm : rd σ 10 8 11 = nI n) (hn : n ≤ 10)
    (hl : ∀ q : Nat, q < n → rd σ 10 8 (15 + 4 * q) = nI (w q) ∧ rd σ 10 8 (16 + 4 * q) = nI (s q) ∧ rd σ 10 8 (17 + 4 * q) = nI (z q) ∧ (1 ≤ w q ∧ w q ≤ 50) ∧ (10 ≤ s q ∧ s q ≤ 60) ∧ 1 ≤ z q ∧ z q ≤ 20) (hf : ∀ q : Nat, q < n → f q = -(nI (vT w s z q))) (hp : p < n) (h : X v1 (nI p) (nI (cA f n p)) σ) : ∃ m : Nat, wX13_baleByValue_18 Q E X m v1 (nI p) 0 0 σ := by
  have bd : ∀ q : Nat, q < n → vT w s z q < 2 ^ 30 := by
    intro q hq
    obtain ⟨-, -, -, ⟨-, h4⟩, ⟨-, h6⟩, -, h7⟩ := hl q hq
    have : w q * z q ≤ 1000 := Nat.mul_le_mul h4 h7
    unfold vT
    omega
  have key : ∀ m o : Nat, o + m = n → wX13_baleByValue_18 Q E X (m + 1) v1 (nI p) (nI (cntB (ahd f p) o)) (nI o) σ := by
    intro m
    induction m with
    | zero =>
      intro o ho
      obtain rfl : o = n := by omega
      exact ⟨fun _ => h, fun r => absurd (show rd σ 10 8 11 ≤ nI o from hm ▸ nI_le (Nat.le_refl o) (by omega)) r⟩
    | succ m ih =>
      intro o ho
      have e1 : ahd f p o = true → cntB (ahd f p) (o + 1) = cntB (ahd f p) o + 1 := fun q => by
        show cntB (ahd f p) o + (if ahd f p o then 1 else 0) = _
        rw [if_pos q]
      have e0 : ahd f p o = false → cntB (ahd f p) (o + 1) = cntB (ahd f p) o := fun q => by
        show cntB (ahd f p) o + (if ahd f p o then 1 else 0) = _
        rw [q]
        rfl
      have g1 : ahd f p o = true → ∀ v3 : Int32, v3 = nI (cntB (ahd f p) o) + 1 → ∀ v4 : Int32, v4 = nI o + 1 → wX13_baleByValue_18 Q E X (m + 1) v1 (nI p) v3 v4 σ := by
        intro q v3 h3 v4 h4
        rw [nI_1] at h3 h4
        rw [h3, h4, ← e1 q]
        exact ih (o + 1) (by omega)
      have g0 : ahd f p o = false → ∀ v3 : Int32, v3 = nI (cntB (ahd f p) o) + 0 → ∀ v4 : Int32, v4 = nI o + 1 → wX13_baleByValue_18 Q E X (m + 1) v1 (nI p) v3 v4 σ := by
        intro q v3 h3 v4 h4
        rw [nI_1] at h4
        rw [nI_k0] at h3
        rw [h3, h4, ← e0 q]
        exact ih (o + 1) (by omega)
      have ha := ahd_neg (T := vT w s z) (hf p hp) (hf o (by omega)) (bd p hp) (bd o (by omega))
      refine ⟨fun r => absurd (hm ▸ r) (nI_ge (show o < n by omega) (by omega)), fun _ => ⟨fun r => g0 ?_, fun r => ?_⟩⟩
      · rw [nI_eq (by omega) (by omega)] at r
        subst r
        simp [ha]
      · refine w_dearer (by omega) (by omega) (hl o (by omega)) (hl p hp) (fun q => ⟨fun z => absurd z (by decide), fun _ => g1 ?_⟩) (fun q => ⟨fun _ => g0 ?_, fun z => absurd rfl z⟩)
        · rw [ha]
          rcases q with q | ⟨q, q2⟩
          · simp [q]
          · simp [q, q2]
        · rw [ha]
          simp only [Bool.or_eq_false_iff, Bool.and_eq_false_iff, decide_eq_false_iff_not]
          omega
  exact ⟨n + 1, key n 0 (by omega)⟩
theorem w_bbv_at {n p : Nat} {v : Int32} {σ : Mem} {Q : Int32 → Mem → Prop} {E : String → Mem → Prop} {X : Int32 → Mem → Prop} {Y : Mem → Prop} {f : Nat → Int32} {w s z : Nat → Nat} (hm : rd σ 10 8 11 = nI n) (hn : n ≤ 10)
    (hl : ∀ q : Nat, q < n → rd σ 10 8 (15 + 4 * q) = nI (w q) ∧ rd σ 10 8 (16 + 4 * q) = nI (s q) ∧ rd σ 10 8 (17 + 4 * q) = nI (z q) ∧ (1 ≤ w q ∧ w q ≤ 50) ∧ (10 ≤ s q ∧ s q ≤ 60) ∧ 1 ≤ z q ∧ z q ≤ 20) (hf : ∀ q : Nat, q < n → f q = -(nI (vT w s z q))) (hp : p < n) (h1 : nI (cA f n p) = v) (h2 : ∀ q : Nat, q < p → ¬ nI (cA f n q) = v) (h : X (nI p) σ) : ∃ m : Nat, wX13_baleByValue_2 Q E X Y m v 0 σ := by
  have key : ∀ m q : Nat, q + m = p → wX13_baleByValue_2 Q E X Y (m + 1) v (nI q) σ := by
    intro m
    induction m with
    | zero =>
      intro q hq
      obtain rfl : q = p := by omega
      exact ⟨fun r => absurd (hm ▸ r) (nI_ge hp (by omega)), fun _ => w_bbv18 hm hn hl hf hp ⟨fun r => absurd h1 r, fun _ => h⟩⟩
    | succ m ih =>
      intro q hq
      refine ⟨fun r => absurd (hm ▸ r) (nI_ge (show q < n by omega) (by omega)), fun _ => w_bbv18 hm hn hl hf (by omega) ⟨fun _ v2 hv => ?_, fun r => absurd r (h2 q (by omega))⟩⟩
      subst hv
      rw [nI_1]
      exact ih (q + 1) (by omega)
  exact ⟨p + 1, key p 0 (by omega)⟩
theorem w_bbv_no {n : Nat} {v : Int32} {σ : Mem} {Q : Int32 → Mem → Prop} {E : String → Mem → Prop} {X : Int32 → Mem → Prop} {Y : Mem → Prop} {f : Nat → Int32} {w s z : Nat → Nat} (hm : rd σ 10 8 11 = nI n) (hn : n ≤ 10)
    (hl : ∀ q : Nat, q < n → rd σ 10 8 (15 + 4 * q) = nI (w q) ∧ rd σ 10 8 (16 + 4 * q) = nI (s q) ∧ rd σ 10 8 (17 + 4 * q) = nI (z q) ∧ (1 ≤ w q ∧ w q ≤ 50) ∧ (10 ≤ s q ∧ s q ≤ 60) ∧ 1 ≤ z q ∧ z q ≤ 20) (hf : ∀ q : Nat, q < n → f q = -(nI (vT w s z q))) (h2 : ∀ q : Nat, q < n → ¬ nI (cA f n q) = v) (h : Y σ) : ∃ m : Nat, wX13_baleByValue_2 Q E X Y m v 0 σ := by
  have key : ∀ m q : Nat, q + m = n → wX13_baleByValue_2 Q E X Y (m + 1) v (nI q) σ := by
    intro m
    induction m with
    | zero =>
      intro q hq
      obtain rfl : q = n := by omega
      exact ⟨fun _ => h, fun r => absurd (show rd σ 10 8 11 ≤ nI q from hm ▸ nI_le (Nat.le_refl q) (by omega)) r⟩
    | succ m ih =>
      intro q hq
      refine ⟨fun r => absurd (hm ▸ r) (nI_ge (show q < n by omega) (by omega)), fun _ => w_bbv18 hm hn hl hf (by omega) ⟨fun _ v2 hv => ?_, fun r => absurd r (h2 q (by omega))⟩⟩
      subst hv
      rw [nI_1]
      exact ih (q + 1) (by omega)
  exact ⟨n + 1, key n 0 (by omega)⟩
theorem pC_14 {j : Nat} {σ : Mem} (I : Inv j σ) (a1 : Int32) : wC_14 a1 σ (Inv (j + 1)) := by
  obtain ⟨t, nB, nO, nP, htj, F, S⟩ := I.st
  have hB := F.1.1
  have e11 := F.1.2.2.2.1
  obtain ⟨w, s, z, hl⟩ := bal_wsp F
  unfold wC_14 wL_baleByValue wX12_baleByValue wX12_positionAtRank
  refine w_putKeysB (n := nB) (S.2.1 0 (by decide)) (S.2.1 2 (by decide)) (S.2.1 4 (by decide)) hB (fun τ u1 u2 u3 u4 => ?_)
  have hf : ∀ q : Nat, q < nB → rd τ 1 110 q = -(nI (vT w s z q)) := fun q hq => by
    rw [u4 q hq, show rd σ 1 4 q = rd σ 10 8 (15 + 4 * q) * rd σ 10 8 (17 + 4 * q) from (S.2.2.2.2.1 q hq).2.2.2.2, show rd σ 1 2 q = rd σ 10 8 (16 + 4 * q) from (S.2.2.2.2.1 q hq).2.2.1, (hl q hq).1, (hl q hq).2.1, (hl q hq).2.2.1, pk_mul, show (61 : Int32) = nI 61 from rfl, pk_mul, nI_add]
    rfl
  have K := kp110 u1 u2
  have e8 : rd τ 10 8 = rd σ 10 8 := funext fun s => u1 10 8 s (by omega)
  have I' := I.kept K
  rcases fst_or (fun q => nI (cA (fun q => rd τ 1 110 q) nB q)) a1 nB with ⟨i, hi, e1, e2⟩ | hno
  · refine w_findRank_at (k := 110) (n := nB) (f := fun q => rd τ 1 110 q) u3 (show nB ≤ 12 by omega) (fun q hq => rfl) hi e1 e2 ⟨fun _ => ?_, fun q => absurd q (nI_nm1 (by omega))⟩
    refine w_get (k := 0) (n := nB) (i := i) ((u1 0 0 1 (by omega)).trans (S.2.1 0 (by decide))) hi hB rfl ?_
    refine w_bbv_at (n := nB) (w := w) (s := s) (z := z) (f := fun q => rd τ 1 110 q) (by show rd τ 10 8 11 = _; rw [e8]; exact e11) hB (fun q hq => by show rd τ 10 8 _ = _ ∧ rd τ 10 8 _ = _ ∧ rd τ 10 8 _ = _ ∧ _; rw [e8]; exact hl q hq) hf hi e1 e2 ?_
    intro s18 h18
    subst h18
    refine w_ofBale (i := i) (d := 0) (by omega) (by decide) rfl rfl ⟨rfl, fun _ => ?_, I'.to (kpThr τ _ 0)⟩
    refine congrArg Int32.toInt64 ?_
    show rd τ 1 0 i = rd τ 10 8 (14 + 4 * i)
    rw [u1 1 0 i (by omega), e8]
    exact (S.2.2.2.2.1 i hi).1
  · refine w_findRank_no (k := 110) (n := nB) (f := fun q => rd τ 1 110 q) u3 (show nB ≤ 12 by omega) (fun q hq => rfl) hno ⟨fun q => absurd rfl q, fun _ => ⟨rfl, ?_⟩⟩
    refine w_bbv_no (n := nB) (w := w) (s := s) (z := z) (f := fun q => rd τ 1 110 q) (by show rd τ 10 8 11 = _; rw [e8]; exact e11) hB (fun q hq => by show rd τ 10 8 _ = _ ∧ rd τ 10 8 _ = _ ∧ rd τ 10 8 _ = _ ∧ _; rw [e8]; exact hl q hq) hf hno ?_
    intro s18 h18
    subst h18
    exact ⟨rfl, fun q => absurd q (by decide), I'.to (kp7 τ 1)⟩
