/-! RANKS -/
def cntB (P : Nat → Bool) : Nat → Nat
  | 0 => 0
  | n + 1 => cntB P n + (if P n then 1 else 0)
theorem cntB_cg {P P' : Nat → Bool} {n : Nat} (h : ∀ q : Nat, q < n → P q = P' q) : cntB P n = cntB P' n := by
  induction n with
  | zero => rfl
  | succ n ih =>
    show cntB P n + (if P n then 1 else 0) = cntB P' n + (if P' n then 1 else 0)
    rw [ih fun q hq => h q (by omega), h n (by omega)]
/-- o stands ahead of p -/
def ahd (f : Nat → Int32) (p o : Nat) : Bool := decide (f o < f p) || (decide (f o = f p) && decide (o < p))
def cA (f : Nat → Int32) (n p : Nat) : Nat := cntB (ahd f p) n
theorem w_countAhead {k n p : Nat} {f : Nat → Int32} {σ : Mem} {Q : Int32 → Mem → Prop} {E : String → Mem → Prop} (hk : rd σ 0 k 1 = nI n) (hn : n ≤ rowCap k) (hf : ∀ q : Nat, q < n → rd σ 1 k q = f q) (hp : p < n) (h : Q (nI (cA f n p)) σ) : wX7_countAhead k (nI p) σ Q E := by
  have hc := rowCap_le k
  have key : ∀ m o : Nat, o + m = n → wX7_countAhead_11 k Q E (fun x s => Q x s) (m + 1) (nI p) (f p) (nI (cntB (ahd f p) o)) (nI o) σ := by
    intro m
    induction m with
    | zero =>
      intro o ho
      obtain rfl : o = n := by omega
      exact ⟨fun _ => h, fun r => absurd (show rd σ 0 k 1 ≤ nI o from hk ▸ nI_le (Nat.le_refl o) (by omega)) r⟩
    | succ m ih =>
      intro o ho
      have e1 : ahd f p o = true → cntB (ahd f p) (o + 1) = cntB (ahd f p) o + 1 := fun q => by
        show cntB (ahd f p) o + (if ahd f p o then 1 else 0) = _
        rw [if_pos q]
      have e0 : ahd f p o = false → cntB (ahd f p) (o + 1) = cntB (ahd f p) o := fun q => by
        show cntB (ahd f p) o + (if ahd f p o then 1 else 0) = _
        rw [q]
        rfl
      have g1 : ahd f p o = true → ∀ v3 : Int32, v3 = nI (cntB (ahd f p) o) + 1 → ∀ v4 : Int32, v4 = nI o + 1 → wX7_countAhead_11 k Q E (fun x s => Q x s) (m + 1) (nI p) (f p) v3 v4 σ := by
        intro q v3 h3 v4 h4
        rw [nI_1] at h3 h4
        rw [h3, h4, ← e1 q]
        exact ih (o + 1) (by omega)
      have g0 : ahd f p o = false → ∀ v4 : Int32, v4 = nI o + 1 → wX7_countAhead_11 k Q E (fun x s => Q x s) (m + 1) (nI p) (f p) (nI (cntB (ahd f p) o)) v4 σ := by
        intro q v4 h4
        rw [nI_1] at h4
        rw [h4, ← e0 q]
        exact ih (o + 1) (by omega)
      refine ⟨fun r => absurd (hk ▸ r) (nI_ge (show o < n by omega) (by omega)), fun _ => ⟨vp_in_nI (by omega) (by omega), ?_⟩⟩
      rw [nI_clamp (by omega), hf o (by omega)]
      refine ⟨fun r => g1 (by simp [ahd, r]), fun r => ⟨vp_in_nI (by omega) (by omega), fun r2 => g0 (by simp [ahd, r, r2]), fun r2 => ?_⟩⟩
      rw [nI_leI (by omega) (by omega)]
      exact ⟨fun r3 => g0 (by simp [ahd, r, r2]; omega), fun r3 => g1 (by simp [ahd, r, r2]; omega)⟩
  unfold wX7_countAhead
  refine w_get hk hp hn rfl ?_
  rw [hf p hp]
  exact ⟨n + 1, key n 0 (by omega)⟩
theorem w_findRank_at {k n p : Nat} {v : Int32} {f : Nat → Int32} {σ : Mem} {Q : Int32 → Mem → Prop} {E : String → Mem → Prop} (hk : rd σ 0 k 1 = nI n) (hn : n ≤ rowCap k) (hf : ∀ q : Nat, q < n → rd σ 1 k q = f q) (hp : p < n) (h1 : nI (cA f n p) = v) (h2 : ∀ q : Nat, q < p → ¬ nI (cA f n q) = v) (h : Q (nI p) σ) : wX7_findRank k v σ Q E := by
  have hc := rowCap_le k
  have key : ∀ m q : Nat, q + m = p → wX7_findRank_2 k Q E (fun x s => Q x s) (fun s => Q (-1) s) (m + 1) v (nI q) σ := by
    intro m
    induction m with
    | zero =>
      intro q hq
      obtain rfl : q = p := by omega
      exact ⟨fun r => absurd (hk ▸ r) (nI_ge hp (by omega)), fun _ => w_countAhead hk hn hf hp ⟨fun r => absurd h1 r, fun _ => h⟩⟩
    | succ m ih =>
      intro q hq
      refine ⟨fun r => absurd (hk ▸ r) (nI_ge (show q < n by omega) (by omega)), fun _ => w_countAhead hk hn hf (by omega) ⟨fun _ v2 hv => ?_, fun r => absurd r (h2 q (by omega))⟩⟩
      subst hv
      rw [nI_1]
      exact ih (q + 1) (by omega)
  exact ⟨p + 1, key p 0 (by omega)⟩
theorem w_findRank_no {k n : Nat} {v : Int32} {f : Nat → Int32} {σ : Mem} {Q : Int32 → Mem → Prop} {E : String → Mem → Prop} (hk : rd σ 0 k 1 = nI n) (hn : n ≤ rowCap k) (hf : ∀ q : Nat, q < n → rd σ 1 k q = f q) (h2 : ∀ q : Nat, q < n → ¬ nI (cA f n q) = v) (h : Q (-1) σ) : wX7_findRank k v σ Q E := by
  have hc := rowCap_le k
  have key : ∀ m q : Nat, q + m = n → wX7_findRank_2 k Q E (fun x s => Q x s) (fun s => Q (-1) s) (m + 1) v (nI q) σ := by
    intro m
    induction m with
    | zero =>
      intro q hq
      obtain rfl : q = n := by omega
      exact ⟨fun _ => h, fun r => absurd (show rd σ 0 k 1 ≤ nI q from hk ▸ nI_le (Nat.le_refl q) (by omega)) r⟩
    | succ m ih =>
      intro q hq
      refine ⟨fun r => absurd (hk ▸ r) (nI_ge (show q < n by omega) (by omega)), fun _ => w_countAhead hk hn hf (by omega) ⟨fun _ v2 hv => ?_, fun r => absurd r (h2 q (by omega))⟩⟩
      subst hv
      rw [nI_1]
      exact ih (q + 1) (by omega)
  exact ⟨n + 1, key n 0 (by omega)⟩
/-- how many stand ahead of p, as the reference counts the pieces -/
theorem w_pbl18 {n p : Nat} {v1 : Int32} {σ : Mem} {Q : Int32 → Mem → Prop} {E : String → Mem → Prop} {X : Int32 → Int32 → Int32 → Mem → Prop} {l : Nat → Nat} (hm : rd σ 10 8 13 = nI n) (hn : n ≤ 12) (hl : ∀ q : Nat, q < n → rd σ 10 8 (78 + q) = nI (l q) ∧ l q < 2 ^ 30) (hp : p < n) (h : X v1 (nI p) (nI (cA (fun q => rd σ 10 8 (78 + q)) n p)) σ) : ∃ m : Nat, wX13_pieceByLength_18 Q E X m v1 (nI p) 0 0 σ := by
  obtain ⟨f, hf⟩ : ∃ f : Nat → Int32, f = fun q => rd σ 10 8 (78 + q) := ⟨_, rfl⟩
  have hfl : ∀ q : Nat, q < n → f q = nI (l q) := fun q hq => by rw [hf]; exact (hl q hq).1
  rw [← hf] at h
  have key : ∀ m o : Nat, o + m = n → wX13_pieceByLength_18 Q E X (m + 1) v1 (nI p) (nI (cntB (ahd f p) o)) (nI o) σ := by
    intro m
    induction m with
    | zero =>
      intro o ho
      obtain rfl : o = n := by omega
      exact ⟨fun _ => h, fun r => absurd (show rd σ 10 8 13 ≤ nI o from hm ▸ nI_le (Nat.le_refl o) (by omega)) r⟩
    | succ m ih =>
      intro o ho
      have e1 : ahd f p o = true → cntB (ahd f p) (o + 1) = cntB (ahd f p) o + 1 := fun q => by
        show cntB (ahd f p) o + (if ahd f p o then 1 else 0) = _
        rw [if_pos q]
      have e0 : ahd f p o = false → cntB (ahd f p) (o + 1) = cntB (ahd f p) o := fun q => by
        show cntB (ahd f p) o + (if ahd f p o then 1 else 0) = _
        rw [q]
        rfl
      have g1 : ahd f p o = true → ∀ v3 : Int32, v3 = nI (cntB (ahd f p) o) + 1 → ∀ v4 : Int32, v4 = nI o + 1 → wX13_pieceByLength_18 Q E X (m + 1) v1 (nI p) v3 v4 σ := by
        intro q v3 h3 v4 h4
        rw [nI_1] at h3 h4
        rw [h3, h4, ← e1 q]
        exact ih (o + 1) (by omega)
      have g0 : ahd f p o = false → ∀ v3 : Int32, v3 = nI (cntB (ahd f p) o) + 0 → ∀ v4 : Int32, v4 = nI o + 1 → wX13_pieceByLength_18 Q E X (m + 1) v1 (nI p) v3 v4 σ := by
        intro q v3 h3 v4 h4
        rw [nI_1] at h4
        rw [nI_k0] at h3
        rw [h3, h4, ← e0 q]
        exact ih (o + 1) (by omega)
      have a1 := hfl p hp
      have a2 := hfl o (by omega)
      have b1 := (hl p hp).2
      have b2 := (hl o (by omega)).2
      refine ⟨fun r => absurd (hm ▸ r) (nI_ge (show o < n by omega) (by omega)), fun _ => ⟨(piece_ix (show p < 12 by omega)).1, (piece_ix (show o < 12 by omega)).1, fun v5 h5 => ?_⟩⟩
      rw [(piece_ix (show p < 12 by omega)).2, (piece_ix (show o < 12 by omega)).2, (hl p hp).1, (hl o (by omega)).1] at h5
      subst h5
      have hsub := pk_sub_toInt (a := l p) (b := l o) b1 b2
      have z0 : (0 : Int32).toInt = 0 := by decide
      have lt1 : f o < f p ↔ l o < l p := by rw [a1, a2]; exact nI_ltI (by omega) (by omega)
      have eq1 : f o = f p ↔ l o = l p := by rw [a1, a2]; exact nI_eq (by omega) (by omega)
      refine ⟨fun r => g1 ?_, fun r => ⟨fun r2 => g0 ?_, fun r2 => ?_⟩⟩
      · rw [Int32.lt_iff_toInt_lt, hsub, z0] at r
        have : f o < f p := lt1.mpr (by omega)
        simp [ahd, this]
      · rw [Int32.lt_iff_toInt_lt, hsub, z0] at r
        have r3 : ¬ l p = l o := by
          intro e
          rw [e] at r2
          exact r2 (by rw [pk_sub (Nat.le_refl _), Nat.sub_self]; rfl)
        have n1 : ¬ f o < f p := fun q => by have := lt1.mp q; omega
        have n2 : ¬ f o = f p := fun q => by have := eq1.mp q; omega
        simp [ahd, n1, n2]
      · have r3 : l p = l o := by
          have := congrArg Int32.toInt r2
          rw [hsub, z0] at this
          omega
        have n1 : ¬ f o < f p := fun q => by have := lt1.mp q; omega
        have n2 : f o = f p := eq1.mpr r3.symm
        rw [nI_leI (by omega) (by omega)]
        exact ⟨fun r4 => g0 (by simp [ahd, n2]; omega), fun r4 => g1 (by simp [ahd, n2]; omega)⟩
  exact ⟨n + 1, key n 0 (by omega)⟩
theorem w_pbl_at {n p : Nat} {v : Int32} {σ : Mem} {Q : Int32 → Mem → Prop} {E : String → Mem → Prop} {X : Int32 → Mem → Prop} {Y : Mem → Prop} {l : Nat → Nat} (hm : rd σ 10 8 13 = nI n) (hn : n ≤ 12) (hl : ∀ q : Nat, q < n → rd σ 10 8 (78 + q) = nI (l q) ∧ l q < 2 ^ 30) (hp : p < n) (h1 : nI (cA (fun q => rd σ 10 8 (78 + q)) n p) = v) (h2 : ∀ q : Nat, q < p → ¬ nI (cA (fun q => rd σ 10 8 (78 + q)) n q) = v) (h : X (nI p) σ) : ∃ m : Nat, wX13_pieceByLength_2 Q E X Y m v 0 σ := by
  have key : ∀ m q : Nat, q + m = p → wX13_pieceByLength_2 Q E X Y (m + 1) v (nI q) σ := by
    intro m
    induction m with
    | zero =>
      intro q hq
      obtain rfl : q = p := by omega
      exact ⟨fun r => absurd (hm ▸ r) (nI_ge hp (by omega)), fun _ => w_pbl18 hm hn hl hp ⟨fun r => absurd h1 r, fun _ => h⟩⟩
    | succ m ih =>
      intro q hq
      refine ⟨fun r => absurd (hm ▸ r) (nI_ge (show q < n by omega) (by omega)), fun _ => w_pbl18 hm hn hl (by omega) ⟨fun _ v2 hv => ?_, fun r => absurd r (h2 q (by omega))⟩⟩
      subst hv
      rw [nI_1]
      exact ih (q + 1) (by omega)
  exact ⟨p + 1, key p 0 (by omega)⟩
theorem w_pbl_no {n : Nat} {v : Int32} {σ : Mem} {Q : Int32 → Mem → Prop} {E : String → Mem → Prop} {X : Int32 → Mem → Prop} {Y : Mem → Prop} {l : Nat → Nat} (hm : rd σ 10 8 13 = nI n) (hn : n ≤ 12) (hl : ∀ q : Nat, q < n → rd σ 10 8 (78 + q) = nI (l q) ∧ l q < 2 ^ 30) (h2 : ∀ q : Nat, q < n → ¬ nI (cA (fun q => rd σ 10 8 (78 + q)) n q) = v) (h : Y σ) : ∃ m : Nat, wX13_pieceByLength_2 Q E X Y m v 0 σ := by
  have key : ∀ m q : Nat, q + m = n → wX13_pieceByLength_2 Q E X Y (m + 1) v (nI q) σ := by
    intro m
    induction m with
    | zero =>
      intro q hq
      obtain rfl : q = n := by omega
      exact ⟨fun _ => h, fun r => absurd (show rd σ 10 8 13 ≤ nI q from hm ▸ nI_le (Nat.le_refl q) (by omega)) r⟩
    | succ m ih =>
      intro q hq
      refine ⟨fun r => absurd (hm ▸ r) (nI_ge (show q < n by omega) (by omega)), fun _ => w_pbl18 hm hn hl (by omega) ⟨fun _ v2 hv => ?_, fun r => absurd r (h2 q (by omega))⟩⟩
      subst hv
      rw [nI_1]
      exact ih (q + 1) (by omega)
  exact ⟨n + 1, key n 0 (by omega)⟩
theorem sumN_ge {p : Nat → Nat} {n q : Nat} (h : q < n) : p q ≤ sumN p n := by
  induction n with
  | zero => exact absurd h (Nat.not_lt_zero q)
  | succ n ih =>
    show p q ≤ sumN p n + p n
    by_cases c : q = n
    · subst c
      omega
    · have := ih (by omega)
      omega
theorem pC_31 {j : Nat} {σ : Mem} (I : Inv j σ) (hj : j < 512) (a1 : Int32) : wC_31 a1 σ (Inv (j + 1)) := by
  obtain ⟨t, nB, nO, nP, htj, F, S⟩ := I.st
  have hP := F.1.2.2.1
  have e13 := F.1.2.2.2.2.2
  obtain ⟨l, hl, hsum, -⟩ := F.2.2.2.2.2.2.2.1
  have hl2 : ∀ q : Nat, q < nP → rd σ 10 8 (78 + q) = nI (l q) ∧ l q < 2 ^ 30 := fun q hq => ⟨(hl q hq).2, by have := sumN_ge (p := l) hq; omega⟩
  unfold wC_31 wL_pieceByLength wX12_pieceByLength wX12_positionAtRank
  rcases fst_or (fun q => nI (cA (fun q => rd σ 10 8 (78 + q)) nP q)) a1 nP with ⟨i, hi, e1, e2⟩ | hno
  · refine w_findRank_at (k := 9) (n := nP) (f := fun q => rd σ 10 8 (78 + q)) S.2.2.2.1 hP (fun q hq => S.2.2.2.2.2.2 q hq) hi e1 e2 ⟨fun _ => ?_, fun q => absurd q (nI_nm1 (by omega))⟩
    refine w_pbl_at (n := nP) (l := l) e13 hP hl2 hi e1 e2 ?_
    intro s18 h18
    subst h18
    exact ⟨rfl, fun _ => rfl, I.to (kpThr σ _ 0)⟩
  · refine w_findRank_no (k := 9) (n := nP) (f := fun q => rd σ 10 8 (78 + q)) S.2.2.2.1 hP (fun q hq => S.2.2.2.2.2.2 q hq) hno ⟨fun q => absurd rfl q, fun _ => ⟨rfl, ?_⟩⟩
    refine w_pbl_no (n := nP) (l := l) e13 hP hl2 hno ?_
    intro s18 h18
    subst h18
    exact ⟨rfl, fun q => absurd q (by decide), I.to (kp7 σ 1)⟩
