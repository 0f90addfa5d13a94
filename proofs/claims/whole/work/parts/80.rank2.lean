/-! RANKS OF ORDERS -/
theorem neg_toInt {x : Nat} (h : x < 2 ^ 30) : (-(nI x)).toInt = -(x : Int) := by
  have e : -(nI x) = nI 0 - nI x := by
    rw [nI_0]
    grind
  rw [e, pk_sub_toInt (by decide) h]
  omega
/-- keys that stand for their opposites -/
theorem ahd_neg {T : Nat → Nat} {f : Nat → Int32} {p o : Nat} (hp : f p = -(nI (T p))) (ho : f o = -(nI (T o))) (bp : T p < 2 ^ 30) (bo : T o < 2 ^ 30) : ahd f p o = (decide (T p < T o) || (decide (T p = T o) && decide (o < p))) := by
  have h1 : f o < f p ↔ T p < T o := by
    rw [hp, ho, Int32.lt_iff_toInt_lt, neg_toInt bp, neg_toInt bo]
    omega
  have h2 : f o = f p ↔ T p = T o := by
    rw [hp, ho, ← Int32.toInt_inj, neg_toInt bp, neg_toInt bo]
    omega
  unfold ahd
  rw [decide_eq_decide.mpr h1, decide_eq_decide.mpr h2]
theorem w_putKeysO {n : Nat} {σ : Mem} {Q : Mem → Prop} {E : String → Mem → Prop} (h5 : rd σ 0 5 1 = nI n) (h8 : rd σ 0 8 1 = nI n) (hn : n ≤ 8)
    (h : ∀ τ : Mem, (∀ f k s : Nat, ¬ (f ≤ 1 ∧ k = 110) → rd τ f k s = rd σ f k s) → τ.2 = σ.2 → rd τ 0 110 1 = nI n → (∀ q : Nat, q < n → rd τ 1 110 q = -(rd σ 1 8 q)) → Q τ) : wX5_putKeys 0 σ Q E := by
  have key : ∀ (m v : Nat) (σ' : Mem), v + m = n → (∀ f k s : Nat, ¬ (f ≤ 1 ∧ k = 110) → rd σ' f k s = rd σ f k s) → σ'.2 = σ.2 → rd σ' 0 110 1 = nI v → (∀ q : Nat, q < v → rd σ' 1 110 q = -(rd σ 1 8 q)) → wX5_putKeys_6 0 Q E (fun s => Q s) (m + 1) (nI v) σ' := by
    intro m
    induction m with
    | zero =>
      intro v σ' hv p1 p2 p3 p4
      obtain rfl : v = n := by omega
      have e5 : rd σ' 0 5 1 = nI v := (p1 0 5 1 (by omega)).trans h5
      exact ⟨fun _ => h σ' p1 p2 p3 p4, fun r => absurd (show rd σ' 0 5 1 ≤ nI v from e5 ▸ nI_le (Nat.le_refl v) (by omega)) r⟩
    | succ m ih =>
      intro v σ' hv p1 p2 p3 p4
      have e5 : rd σ' 0 5 1 = nI n := (p1 0 5 1 (by omega)).trans h5
      refine ⟨fun r => absurd (show nI n ≤ nI v from e5 ▸ r) (nI_ge (by omega) (by omega)), fun _ => ?_⟩
      refine w_get (k := 8) (n := n) (i := v) ((p1 0 8 1 (by omega)).trans h8) (by omega) hn rfl ?_
      refine w_add (k := 110) (n := v) p3 (show v < 12 by omega) (fun τ t1 t2 t3 t4 x hx => ?_)
      rw [nI_1] at hx
      subst hx
      refine ih (v + 1) τ (by omega) (fun f k s n => (t1 f k s n).trans (p1 f k s n)) (t2.trans p2) t3 (fun q hq => ?_)
      rw [t4]
      by_cases c : q = v
      · subst c
        rw [if_pos rfl, p1 1 8 q (by omega)]
      · rw [if_neg c]
        exact p4 q (by omega)
  intro s1 hs1
  refine ⟨n + 1, key n 0 s1 (by omega) (fun f k s n => by rw [hs1, rd_wr, if_neg (by omega)]) (by rw [hs1]; rfl) (by rw [hs1, rd_wr, if_pos ⟨rfl, rfl, rfl⟩]; rfl) (fun q hq => absurd hq (Nat.not_lt_zero q))⟩
theorem w_time {i l w : Nat} {x : Int32} {σ : Mem} {Q : Int32 → Mem → Prop} {E : String → Mem → Prop} (hi : i < 8) (hx : x = nI i) (hl : rd σ 10 8 (55 + 3 * i) = nI l) (hw : rd σ 10 8 (56 + 3 * i) = nI w) (h : Q (nI (l * w)) σ) : wX13_time x σ Q E := by
  refine w_ofOrder (i := i) (d := 1) hi (by decide) hx rfl (w_ofOrder (i := i) (d := 2) hi (by decide) hx rfl ?_)
  rw [show 54 + 3 * i + 1 = 55 + 3 * i by omega, show 54 + 3 * i + 2 = 56 + 3 * i by omega, hl, hw, pk_mul]
  exact h
theorem w_obt18 {n p : Nat} {v1 : Int32} {σ : Mem} {Q : Int32 → Mem → Prop} {E : String → Mem → Prop} {X : Int32 → Int32 → Int32 → Mem → Prop} {f : Nat → Int32} {l w : Nat → Nat} (hm : rd σ 10 8 12 = nI n) (hn : n ≤ 8) (hl : ∀ q : Nat, q < n → rd σ 10 8 (55 + 3 * q) = nI (l q) ∧ rd σ 10 8 (56 + 3 * q) = nI (w q) ∧ l q * w q < 2 ^ 30) (hf : ∀ q : Nat, q < n → f q = -(nI (l q * w q))) (hp : p < n) (h : X v1 (nI p) (nI (cA f n p)) σ) : ∃ m : Nat, wX13_orderByTime_18 Q E X m v1 (nI p) 0 0 σ := by
  have key : ∀ m o : Nat, o + m = n → wX13_orderByTime_18 Q E X (m + 1) v1 (nI p) (nI (cntB (ahd f p) o)) (nI o) σ := by
    intro m
    induction m with
    | zero =>
      intro o ho
      obtain rfl : o = n := by omega
      exact ⟨fun _ => h, fun r => absurd (show rd σ 10 8 12 ≤ nI o from hm ▸ nI_le (Nat.le_refl o) (by omega)) r⟩
    | succ m ih =>
      intro o ho
      have e1 : ahd f p o = true → cntB (ahd f p) (o + 1) = cntB (ahd f p) o + 1 := fun q => by
        show cntB (ahd f p) o + (if ahd f p o then 1 else 0) = _
        rw [if_pos q]
      have e0 : ahd f p o = false → cntB (ahd f p) (o + 1) = cntB (ahd f p) o := fun q => by
        show cntB (ahd f p) o + (if ahd f p o then 1 else 0) = _
        rw [q]
        rfl
      have g1 : ahd f p o = true → ∀ v3 : Int32, v3 = nI (cntB (ahd f p) o) + 1 → ∀ v4 : Int32, v4 = nI o + 1 → wX13_orderByTime_18 Q E X (m + 1) v1 (nI p) v3 v4 σ := by
        intro q v3 h3 v4 h4
        rw [nI_1] at h3 h4
        rw [h3, h4, ← e1 q]
        exact ih (o + 1) (by omega)
      have g0 : ahd f p o = false → ∀ v3 : Int32, v3 = nI (cntB (ahd f p) o) + 0 → ∀ v4 : Int32, v4 = nI o + 1 → wX13_orderByTime_18 Q E X (m + 1) v1 (nI p) v3 v4 σ := by
        intro q v3 h3 v4 h4
        rw [nI_1] at h4
        rw [nI_k0] at h3
        rw [h3, h4, ← e0 q]
        exact ih (o + 1) (by omega)
      obtain ⟨lp, wp, bp⟩ := hl p hp
      obtain ⟨lo, wo, bo⟩ := hl o (by omega)
      have ha := ahd_neg (T := fun q => l q * w q) (hf p hp) (hf o (by omega)) bp bo
      refine ⟨fun r => absurd (hm ▸ r) (nI_ge (show o < n by omega) (by omega)), fun _ => ?_⟩
      refine w_time (i := o) (by omega) rfl lo wo (w_time (i := p) (by omega) rfl lp wp (fun v5 h5 => ?_))
      subst h5
      have hsub := pk_sub_toInt (a := l o * w o) (b := l p * w p) bo bp
      have z0 : (0 : Int32).toInt = 0 := by decide
      refine ⟨fun r => g1 ?_, fun r => ⟨fun r2 => g0 ?_, fun r2 => ?_⟩⟩
      · rw [Int32.lt_iff_toInt_lt, hsub, z0] at r
        have : l p * w p < l o * w o := by omega
        simp [ha, this]
      · rw [Int32.lt_iff_toInt_lt, hsub, z0] at r
        have r3 : ¬ l p * w p = l o * w o := by
          intro e
          rw [e] at r2
          exact r2 (by rw [pk_sub (Nat.le_refl _), Nat.sub_self]; rfl)
        have n1 : ¬ l p * w p < l o * w o := by omega
        simp [ha, n1, r3]
      · have r3 : l p * w p = l o * w o := by
          have := congrArg Int32.toInt r2
          rw [hsub, z0] at this
          omega
        rw [nI_leI (by omega) (by omega)]
        exact ⟨fun r4 => g0 (by simp [ha, r3]; omega), fun r4 => g1 (by simp [ha, r3]; omega)⟩
  exact ⟨n + 1, key n 0 (by omega)⟩
theorem w_obt_at {n p : Nat} {v : Int32} {σ : Mem} {Q : Int32 → Mem → Prop} {E : String → Mem → Prop} {X : Int32 → Mem → Prop} {Y : Mem → Prop} {f : Nat → Int32} {l w : Nat → Nat} (hm : rd σ 10 8 12 = nI n) (hn : n ≤ 8) (hl : ∀ q : Nat, q < n → rd σ 10 8 (55 + 3 * q) = nI (l q) ∧ rd σ 10 8 (56 + 3 * q) = nI (w q) ∧ l q * w q < 2 ^ 30) (hf : ∀ q : Nat, q < n → f q = -(nI (l q * w q))) (hp : p < n) (h1 : nI (cA f n p) = v) (h2 : ∀ q : Nat, q < p → ¬ nI (cA f n q) = v) (h : X (nI p) σ) : ∃ m : Nat, wX13_orderByTime_2 Q E X Y m v 0 σ := by
  have key : ∀ m q : Nat, q + m = p → wX13_orderByTime_2 Q E X Y (m + 1) v (nI q) σ := by
    intro m
    induction m with
    | zero =>
      intro q hq
      obtain rfl : q = p := by omega
      exact ⟨fun r => absurd (hm ▸ r) (nI_ge hp (by omega)), fun _ => w_obt18 hm hn hl hf hp ⟨fun r => absurd h1 r, fun _ => h⟩⟩
    | succ m ih =>
      intro q hq
      refine ⟨fun r => absurd (hm ▸ r) (nI_ge (show q < n by omega) (by omega)), fun _ => w_obt18 hm hn hl hf (by omega) ⟨fun _ v2 hv => ?_, fun r => absurd r (h2 q (by omega))⟩⟩
      subst hv
      rw [nI_1]
      exact ih (q + 1) (by omega)
  exact ⟨p + 1, key p 0 (by omega)⟩
theorem w_obt_no {n : Nat} {v : Int32} {σ : Mem} {Q : Int32 → Mem → Prop} {E : String → Mem → Prop} {X : Int32 → Mem → Prop} {Y : Mem → Prop} {f : Nat → Int32} {l w : Nat → Nat} (hm : rd σ 10 8 12 = nI n) (hn : n ≤ 8) (hl : ∀ q : Nat, q < n → rd σ 10 8 (55 + 3 * q) = nI (l q) ∧ rd σ 10 8 (56 + 3 * q) = nI (w q) ∧ l q * w q < 2 ^ 30) (hf : ∀ q : Nat, q < n → f q = -(nI (l q * w q))) (h2 : ∀ q : Nat, q < n → ¬ nI (cA f n q) = v) (h : Y σ) : ∃ m : Nat, wX13_orderByTime_2 Q E X Y m v 0 σ := by
  have key : ∀ m q : Nat, q + m = n → wX13_orderByTime_2 Q E X Y (m + 1) v (nI q) σ := by
    intro m
    induction m with
    | zero =>
      intro q hq
      obtain rfl : q = n := by omega
      exact ⟨fun _ => h, fun r => absurd (show rd σ 10 8 12 ≤ nI q from hm ▸ nI_le (Nat.le_refl q) (by omega)) r⟩
    | succ m ih =>
      intro q hq
      refine ⟨fun r => absurd (hm ▸ r) (nI_ge (show q < n by omega) (by omega)), fun _ => w_obt18 hm hn hl hf (by omega) ⟨fun _ v2 hv => ?_, fun r => absurd r (h2 q (by omega))⟩⟩
      subst hv
      rw [nI_1]
      exact ih (q + 1) (by omega)
  exact ⟨n + 1, key n 0 (by omega)⟩
theorem kp110 {σ τ : Mem} (h : ∀ f k s : Nat, ¬ (f ≤ 1 ∧ k = 110) → rd τ f k s = rd σ f k s) (h2 : τ.2 = σ.2) : Kp σ τ := by
  refine ⟨fun f k s e => h f k s ?_, by rw [h2]⟩
  rintro ⟨hf, rfl⟩
  have : f = 0 ∨ f = 1 := by omega
  simp [ess, this] at e
theorem ord_lw {t nB nO nP : Nat} {a : Nat → Int32} (F : Fits t nB nO nP a) : ∃ l w : Nat → Nat, ∀ q : Nat, q < nO → a (55 + 3 * q) = nI (l q) ∧ a (56 + 3 * q) = nI (w q) ∧ 1 ≤ l q ∧ l q ≤ 40 ∧ 1 ≤ w q ∧ w q ≤ 9 := by
  have g := F.2.2.2.2.2.2.1
  refine ⟨fun q => (a (55 + 3 * q)).toNatClampNeg, fun q => (a (56 + 3 * q)).toNatClampNeg, fun q hq => ?_⟩
  obtain ⟨-, ⟨l, l1, l2, l3⟩, w, w1, w2, w3⟩ := g q hq
  show a (55 + 3 * q) = nI (a (55 + 3 * q)).toNatClampNeg ∧ a (56 + 3 * q) = nI (a (56 + 3 * q)).toNatClampNeg ∧ 1 ≤ (a (55 + 3 * q)).toNatClampNeg ∧ (a (55 + 3 * q)).toNatClampNeg ≤ 40 ∧ 1 ≤ (a (56 + 3 * q)).toNatClampNeg ∧ (a (56 + 3 * q)).toNatClampNeg ≤ 9
  rw [l3, w3, nI_clamp (by omega), nI_clamp (by omega)]
  exact ⟨rfl, rfl, l1, l2, w1, w2⟩
theorem mul_le360 {l w : Nat} (h1 : l ≤ 40) (h2 : w ≤ 9) : l * w ≤ 360 := Nat.mul_le_mul h1 h2
theorem pC_25 {j : Nat} {σ : Mem} (I : Inv j σ) (a1 : Int32) : wC_25 a1 σ (Inv (j + 1)) := by
  obtain ⟨t, nB, nO, nP, htj, F, S⟩ := I.st
  have hO := F.1.2.1
  have e12 := F.1.2.2.2.2.1
  obtain ⟨l, w, hlw⟩ := ord_lw F
  have hl2 : ∀ q : Nat, q < nO → rd σ 10 8 (55 + 3 * q) = nI (l q) ∧ rd σ 10 8 (56 + 3 * q) = nI (w q) ∧ l q * w q < 2 ^ 30 := fun q hq => ⟨(hlw q hq).1, (hlw q hq).2.1, by have := mul_le360 (hlw q hq).2.2.2.1 (hlw q hq).2.2.2.2.2; omega⟩
  unfold wC_25 wL_orderByTime wX12_orderByTime wX12_positionAtRank
  refine w_putKeysO (n := nO) (S.2.2.1 0 (by decide)) (S.2.2.1 3 (by decide)) hO (fun τ u1 u2 u3 u4 => ?_)
  have hf : ∀ q : Nat, q < nO → rd τ 1 110 q = -(nI (l q * w q)) := fun q hq => by
    rw [u4 q hq, show rd σ 1 8 q = rd σ 10 8 (55 + 3 * q) * rd σ 10 8 (56 + 3 * q) from (S.2.2.2.2.2.1 q hq).2.2.2, (hlw q hq).1, (hlw q hq).2.1, pk_mul]
  have K := kp110 u1 u2
  have e8 : rd τ 10 8 = rd σ 10 8 := funext fun s => u1 10 8 s (by omega)
  have I' := I.kept K
  rcases fst_or (fun q => nI (cA (fun q => rd τ 1 110 q) nO q)) a1 nO with ⟨i, hi, e1, e2⟩ | hno
  · refine w_findRank_at (k := 110) (n := nO) (f := fun q => rd τ 1 110 q) u3 (show nO ≤ 12 by omega) (fun q hq => rfl) hi e1 e2 ⟨fun _ => ?_, fun q => absurd q (nI_nm1 (by omega))⟩
    refine w_get (k := 5) (n := nO) (i := i) ((u1 0 5 1 (by omega)).trans (S.2.2.1 0 (by decide))) hi hO rfl ?_
    refine w_obt_at (n := nO) (l := l) (w := w) (f := fun q => rd τ 1 110 q) (by show rd τ 10 8 12 = _; rw [e8]; exact e12) hO (fun q hq => by show rd τ 10 8 _ = _ ∧ rd τ 10 8 _ = _ ∧ _; rw [e8]; exact hl2 q hq) hf hi e1 e2 ?_
    intro s18 h18
    subst h18
    refine w_ofOrder (i := i) (d := 0) (by omega) (by decide) rfl rfl ⟨rfl, fun _ => ?_, I'.to (kpThr τ _ 0)⟩
    refine congrArg Int32.toInt64 ?_
    show rd τ 1 5 i = rd τ 10 8 (54 + 3 * i)
    rw [u1 1 5 i (by omega), e8]
    exact (S.2.2.2.2.2.1 i hi).1
  · refine w_findRank_no (k := 110) (n := nO) (f := fun q => rd τ 1 110 q) u3 (show nO ≤ 12 by omega) (fun q hq => rfl) hno ⟨fun q => absurd rfl q, fun _ => ⟨rfl, ?_⟩⟩
    refine w_obt_no (n := nO) (l := l) (w := w) (f := fun q => rd τ 1 110 q) (by show rd τ 10 8 12 = _; rw [e8]; exact e12) hO (fun q hq => by show rd τ 10 8 _ = _ ∧ rd τ 10 8 _ = _ ∧ _; rw [e8]; exact hl2 q hq) hf hno ?_
    intro s18 h18
    subst h18
    exact ⟨rfl, fun q => absurd q (by decide), I'.to (kp7 τ 1)⟩
