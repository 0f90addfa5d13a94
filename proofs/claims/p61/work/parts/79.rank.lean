/-! RANKS -/
def cntB (P : Nat → Bool) : Nat → Nat
  | 0 => 0
  | n + 1 => cntB P n + (if P n then 1 else 0)
theorem cntB_cg {P P' : Nat → Bool} {n : Nat} (h : ∀ q : Nat, q < n → P q = P' q) : cntB P n = cntB P' n := by
  induction n with
  | zero => rfl
  | succ n ih =>
    show cntB P n + (if P n then 1 else 0) = cntB P' n + (if P' n then 1 else 0)
    rw [ih fun q hq => h q (by omega), h n (by omega)]
/-- o stands ahead of p -/
def ahd (f : Nat → Int32) (p o : Nat) : Bool := decide (f o < f p) || (decide (f o = f p) && decide (o < p))
def cA (f : Nat → Int32) (n p : Nat) : Nat := cntB (ahd f p) n
theorem w_countAhead {k n p : Nat} {f : Nat → Int32} {σ : Mem} {Q : Int32 → Mem → Prop} {E : String → Mem → Prop} (hk : rd σ 0 k 1 = nI n) (hn : n ≤ rowCap k) (hf : ∀ q : Nat, q < n → rd σ 1 k q = f q) (hp : p < n) (h : Q (nI (cA f n p)) σ) : wX7_countAhead k (nI p) σ Q E := by
  have hc := rowCap_le k
  have key : ∀ m o : Nat, o + m = n → wX7_countAhead_11 k Q E (fun x s => Q x s) (m + 1) (nI p) (f p) (nI (cntB (ahd f p) o)) (nI o) σ := by
    intro m
    induction m with
    | zero =>
      intro o ho
      obtain rfl : o = n := by omega
      exact ⟨fun _ => h, fun r => absurd (show rd σ 0 k 1 ≤ nI o from hk ▸ nI_le (Nat.le_refl o) (by omega)) r⟩
    | succ m ih =>
      intro o ho
      have e1 : ahd f p o = true → cntB (ahd f p) (o + 1) = cntB (ahd f p) o + 1 := fun q => by
        show cntB (ahd f p) o + (if ahd f p o then 1 else 0) = _
        rw [if_pos q]
      have e0 : ahd f p o = false → cntB (ahd f p) (o + 1) = cntB (ahd f p) o := fun q => by
        show cntB (ahd f p) o + (if ahd f p o then 1 else 0) = _
        rw [q]
        rfl
      have g1 : ahd f p o = true → ∀ v3 : Int32, v3 = nI (cntB (ahd f p) o) + 1 → ∀ v4 : Int32, v4 = nI o + 1 → wX7_countAhead_11 k Q E (fun x s => Q x s) (m + 1) (nI p) (f p) v3 v4 σ := by
        intro q v3 h3 v4 h4
        rw [nI_1] at h3 h4
        rw [h3, h4, ← e1 q]
        exact ih (o + 1) (by omega)
      have g0 : ahd f p o = false → ∀ v4 : Int32, v4 = nI o + 1 → wX7_countAhead_11 k Q E (fun x s => Q x s) (m + 1) (nI p) (f p) (nI (cntB (ahd f p) o)) v4 σ := by
        intro q v4 h4
        rw [nI_1] at h4
        rw [h4, ← e0 q]
        exact ih (o + 1) (by omega)
      refine ⟨fun r => absurd (hk ▸ r) (nI_ge (show o < n by omega) (by omega)), fun _ => ⟨vp_in_nI (by omega) (by omega), ?_⟩⟩
      rw [nI_clamp (by omega), hf o (by omega)]
      refine ⟨fun r => g1 (by simp [ahd, r]), fun r => ⟨vp_in_nI (by omega) (by omega), fun r2 => g0 (by simp [ahd, r, r2]), fun r2 => ?_⟩⟩
      rw [nI_leI (by omega) (by omega)]
      exact ⟨fun r3 => g0 (by simp [ahd, r, r2]; omega), fun r3 => g1 (by simp [ahd, r, r2]; omega)⟩
  unfold wX7_countAhead
  refine w_get hk hp hn rfl ?_
  rw [hf p hp]
  exact ⟨n + 1, key n 0 (by omega)⟩
theorem w_findRank_at {k n p : Nat} {v : Int32} {f : Nat → Int32} {σ : Mem} {Q : Int32 → Mem → Prop} {E : String → Mem → Prop} (hk : rd σ 0 k 1 = nI n) (hn : n ≤ rowCap k) (hf : ∀ q : Nat, q < n → rd σ 1 k q = f q) (hp : p < n) (h1 : nI (cA f n p) = v) (h2 : ∀ q : Nat, q < p → ¬ nI (cA f n q) = v) (h : Q (nI p) σ) : wX7_findRank k v σ Q E := by
  have hc := rowCap_le k
  have key : ∀ m q : Nat, q + m = p → wX7_findRank_2 k Q E (fun x s => Q x s) (fun s => Q (-1) s) (m + 1) v (nI q) σ := by
    intro m
    induction m with
    | zero =>
      intro q hq
      obtain rfl : q = p := by omega
      exact ⟨fun r => absurd (hk ▸ r) (nI_ge hp (by omega)), fun _ => w_countAhead hk hn hf hp ⟨fun r => absurd h1 r, fun _ => h⟩⟩
    | succ m ih =>
      intro q hq
      refine ⟨fun r => absurd (hk ▸ r) (nI_ge (show q < n by omega) (by omega)), fun _ => w_countAhead hk hn hf (by omega) ⟨fun _ v2 hv => ?_, fun r => absurd r (h2 q (by omega))⟩⟩
      subst hv
      rw [nI_1]
      exact ih (q + 1) (by omega)
  exact ⟨p + 1, key p 0 (by omega)⟩
theorem w_findRank_no {k n : Nat} {v : Int32} {f : Nat → Int32} {σ : Mem} {Q : Int32 → Mem → Prop} {E : String → Mem → Prop} (hk : rd σ 0 k 1 = nI n) (hn : n ≤ rowCap k) (hf : ∀ q : Nat, q < n → rd σ 1 k q = f q) (h2 : ∀ q : Nat, q < n → ¬ nI (cA f n q) = v) (h : Q (-1) σ) : wX7_findRank k v σ Q E := by
  have hc := rowCap_le k
  have key : ∀ m q : Nat, q + m = n → wX7_findRank_2 k Q E (fun x s => Q x s) (fun s => Q (-1) s) (m + 1) v (nI q) σ := by
    intro m
    induction m with
    | zero =>
      intro q hq
      obtain rfl : q = n := by omega
      exact ⟨fun _ => h, fun r => absurd (show rd σ 0 k 1 ≤ nI q from hk ▸ nI_le (Nat.le_refl q) (by omega)) r⟩
    | succ m ih =>
      intro q hq
      refine ⟨fun r => absurd (hk ▸ r) (nI_ge (show q < n by omega) (by omega)), fun _ => w_countAhead hk hn hf (by omega) ⟨fun _ v2 hv => ?_, fun r => absurd r (h2 q (by omega))⟩⟩
      subst hv
      rw [nI_1]
      exact ih (q + 1) (by omega)
  exact ⟨n + 1, key n 0 (by omega)⟩
theorem sumN_ge {p : Nat → Nat} {n q : Nat} (h : q < n) : p q ≤ sumN p n := by
  induction n with
  | zero => exact absurd h (Nat.not_lt_zero q)
  | succ n ih =>
    show p q ≤ sumN p n + p n
    by_cases c : q = n
    · subst c
      omega
    · have := ih (by omega)
      omega
