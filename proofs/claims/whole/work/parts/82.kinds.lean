/-! KINDS OF ORDERS -/
def anyB (P : Nat → Bool) : Nat → Bool
  | 0 => false
  | n + 1 => anyB P n || P n
theorem anyB_at {P : Nat → Bool} {n i : Nat} (h : i < n) (hi : P i = true) : anyB P n = true := by
  induction n with
  | zero => exact absurd h (Nat.not_lt_zero i)
  | succ n ih =>
    show (anyB P n || P n) = true
    by_cases c : i = n
    · subst c
      rw [hi, Bool.or_true]
    · rw [ih (by omega), Bool.true_or]
/-- orders b and p are of one kind -/
def smK (f g : Nat → Int32) (p b : Nat) : Bool := decide (f b = f p) && decide (g b = g p)
theorem w_firstOfKind {n p : Nat} {f g : Nat → Int32} {σ : Mem} {Q : Int32 → Mem → Prop} {E : String → Mem → Prop} (h6 : rd σ 0 6 1 = nI n) (h7 : rd σ 0 7 1 = nI n) (hn : n ≤ 8) (hf : ∀ q : Nat, q < n → rd σ 1 6 q = f q) (hg : ∀ q : Nat, q < n → rd σ 1 7 q = g q) (hp : p < n)
    (h1 : anyB (smK f g p) p = false → Q 1 σ) (h0 : anyB (smK f g p) p = true → Q 0 σ) : wX5_isFirstOfKind 0 (nI p) σ Q E := by
  have key : ∀ m b : Nat, b + m = p → anyB (smK f g p) b = false → wX5_isFirstOfKind_2 0 Q E (fun s => Q 0 s) (fun s => Q 1 s) (m + 1) (nI p) (nI b) σ := by
    intro m
    induction m with
    | zero =>
      intro b hb ha
      obtain rfl : b = p := by omega
      exact ⟨fun _ => h1 ha, fun r => absurd (nI_le (Nat.le_refl _) (by omega)) r⟩
    | succ m ih =>
      intro b hb ha
      have go : smK f g p b = false → ∀ v2 : Int32, v2 = nI b + 1 → wX5_isFirstOfKind_2 0 Q E (fun s => Q 0 s) (fun s => Q 1 s) (m + 1) (nI p) v2 σ := by
        intro q v2 hv
        rw [nI_1] at hv
        subst hv
        exact ih (b + 1) (by omega) (by show (anyB (smK f g p) b || smK f g p b) = false; rw [ha, q]; rfl)
      refine ⟨fun r => absurd r (nI_ge (by omega) (by omega)), fun _ => ?_⟩
      refine w_get (k := 6) (n := n) (i := b) h6 (by omega) hn rfl (w_get (k := 6) (n := n) (i := p) h6 hp hn rfl ?_)
      rw [hf b (by omega), hf p hp]
      refine ⟨fun r => go (by simp [smK, r]), fun r => ?_⟩
      refine w_get (k := 7) (n := n) (i := b) h7 (by omega) hn rfl (w_get (k := 7) (n := n) (i := p) h7 hp hn rfl ?_)
      rw [hg b (by omega), hg p hp]
      exact ⟨fun r2 => go (by simp [smK, r2]), fun r2 => h0 (anyB_at (i := b) (by omega) (by simp [smK, r, r2]))⟩
  exact ⟨p + 1, key p 0 (by omega) rfl⟩
def nwK (f g : Nat → Int32) (p : Nat) : Bool := !(anyB (smK f g p) p)
theorem w_countKinds {n : Nat} {f g : Nat → Int32} {σ : Mem} {Q : Int32 → Mem → Prop} {E : String → Mem → Prop} (h5 : rd σ 0 5 1 = nI n) (h6 : rd σ 0 6 1 = nI n) (h7 : rd σ 0 7 1 = nI n) (hn : n ≤ 8) (hf : ∀ q : Nat, q < n → rd σ 1 6 q = f q) (hg : ∀ q : Nat, q < n → rd σ 1 7 q = g q)
    (h : Q (nI (cntB (nwK f g) n)) σ) : wX5_countKinds 0 σ Q E := by
  have key : ∀ m p : Nat, p + m = n → wX5_countKinds_4 0 Q E (fun x s => Q x s) (m + 1) (nI (cntB (nwK f g) p)) (nI p) σ := by
    intro m
    induction m with
    | zero =>
      intro p hp
      obtain rfl : p = n := by omega
      exact ⟨fun _ => h, fun r => absurd (show rd σ 0 5 1 ≤ nI p from h5 ▸ nI_le (Nat.le_refl p) (by omega)) r⟩
    | succ m ih =>
      intro p hp
      have hh := ih (p + 1) (by omega)
      refine ⟨fun r => absurd (show nI n ≤ nI p from h5 ▸ r) (nI_ge (by omega) (by omega)), fun _ => ?_⟩
      refine w_firstOfKind h6 h7 hn hf hg (by omega) (fun q => ⟨fun z => absurd z (by decide), fun _ v1 hv1 v2 hv2 => ?_⟩) (fun q => ⟨fun _ v2 hv2 => ?_, fun z => absurd rfl z⟩)
      · rw [nI_1] at hv1 hv2
        rw [hv1, hv2]
        have e : cntB (nwK f g) (p + 1) = cntB (nwK f g) p + 1 := by
          show cntB (nwK f g) p + (if nwK f g p then 1 else 0) = _
          rw [if_pos (by simp [nwK, q])]
        rw [← e]
        exact hh
      · rw [nI_1] at hv2
        rw [hv2]
        have e : cntB (nwK f g) (p + 1) = cntB (nwK f g) p := by
          show cntB (nwK f g) p + (if nwK f g p then 1 else 0) = _
          rw [if_neg (by simp [nwK, q])]
          rfl
        rw [← e]
        exact hh
  exact ⟨n + 1, key n 0 (by omega)⟩
theorem w_kinds25 {n p : Nat} {v1 : Int32} {f g : Nat → Int32} {σ : Mem} {Q : Int32 → Mem → Prop} {E : String → Mem → Prop} {X : Int32 → Int32 → Int32 → Mem → Prop} (hn : n ≤ 8) (hf : ∀ q : Nat, q < n → rd σ 10 8 (55 + 3 * q) = f q) (hg : ∀ q : Nat, q < n → rd σ 10 8 (56 + 3 * q) = g q) (hp : p < n)
    (h : X v1 (nI p) (if anyB (smK f g p) p then 0 else 1) σ) : ∃ m : Nat, wX13_kinds_25 Q E X m v1 (nI p) 1 0 σ := by
  have key : ∀ m b : Nat, b + m = p → wX13_kinds_25 Q E X (m + 1) v1 (nI p) (if anyB (smK f g p) b then 0 else 1) (nI b) σ := by
    intro m
    induction m with
    | zero =>
      intro b hb
      obtain rfl : b = p := by omega
      exact ⟨fun _ => h, fun r => absurd (nI_le (Nat.le_refl _) (by omega)) r⟩
    | succ m ih =>
      intro b hb
      have hh := ih (b + 1) (by omega)
      have ea : anyB (smK f g p) (b + 1) = (anyB (smK f g p) b || smK f g p b) := rfl
      rw [ea] at hh
      have g1 : smK f g p b = false → ∀ v3 : Int32, v3 = (if anyB (smK f g p) b then (0 : Int32) else 1) &&& 1 → ∀ v4 : Int32, v4 = nI b + 1 → wX13_kinds_25 Q E X (m + 1) v1 (nI p) v3 v4 σ := by
        intro q v3 h3 v4 h4
        rw [nI_1] at h4
        rw [h4, h3]
        rw [q, Bool.or_false] at hh
        cases hc : anyB (smK f g p) b with
        | true => rw [hc] at hh; exact hh
        | false => rw [hc] at hh; exact hh
      have g0 : smK f g p b = true → ∀ v3 : Int32, v3 = (if anyB (smK f g p) b then (0 : Int32) else 1) &&& 0 → ∀ v4 : Int32, v4 = nI b + 1 → wX13_kinds_25 Q E X (m + 1) v1 (nI p) v3 v4 σ := by
        intro q v3 h3 v4 h4
        rw [nI_1] at h4
        rw [h4, h3]
        rw [q, Bool.or_true] at hh
        cases hc : anyB (smK f g p) b with
        | true => exact hh
        | false => exact hh
      refine ⟨fun r => absurd r (nI_ge (by omega) (by omega)), fun _ => ?_⟩
      refine w_ofOrder (i := b) (d := 1) (by omega) (by decide) rfl rfl (w_ofOrder (i := p) (d := 1) (by omega) (by decide) rfl rfl ?_)
      rw [show 54 + 3 * b + 1 = 55 + 3 * b by omega, show 54 + 3 * p + 1 = 55 + 3 * p by omega, hf b (by omega), hf p hp]
      refine ⟨fun r => g1 (by simp [smK, r]), fun r => ?_⟩
      refine w_ofOrder (i := b) (d := 2) (by omega) (by decide) rfl rfl (w_ofOrder (i := p) (d := 2) (by omega) (by decide) rfl rfl ?_)
      rw [show 54 + 3 * b + 2 = 56 + 3 * b by omega, show 54 + 3 * p + 2 = 56 + 3 * p by omega, hg b (by omega), hg p hp]
      exact ⟨fun r2 => g0 (by simp [smK, r, r2]), fun r2 => g1 (by simp [smK, r2])⟩
  exact ⟨p + 1, key p 0 (by omega)⟩
theorem w_kindsR {n : Nat} {f g : Nat → Int32} {σ : Mem} {Q : Int32 → Mem → Prop} {E : String → Mem → Prop} {X : Int32 → Mem → Prop} (hm : rd σ 10 8 12 = nI n) (hn : n ≤ 8) (hf : ∀ q : Nat, q < n → rd σ 10 8 (55 + 3 * q) = f q) (hg : ∀ q : Nat, q < n → rd σ 10 8 (56 + 3 * q) = g q)
    (h : X (nI (cntB (nwK f g) n)) σ) : ∃ m : Nat, wX13_kinds_9 Q E X m 0 0 σ := by
  have key : ∀ m p : Nat, p + m = n → wX13_kinds_9 Q E X (m + 1) (nI (cntB (nwK f g) p)) (nI p) σ := by
    intro m
    induction m with
    | zero =>
      intro p hp
      obtain rfl : p = n := by omega
      exact ⟨fun _ => h, fun r => absurd (show rd σ 10 8 12 ≤ nI p from hm ▸ nI_le (Nat.le_refl p) (by omega)) r⟩
    | succ m ih =>
      intro p hp
      have hh := ih (p + 1) (by omega)
      have ee : cntB (nwK f g) (p + 1) = cntB (nwK f g) p + (if nwK f g p then 1 else 0) := rfl
      refine ⟨fun r => absurd (show nI n ≤ nI p from hm ▸ r) (nI_ge (by omega) (by omega)), fun _ => ?_⟩
      refine w_kinds25 hn hf hg (by omega) ⟨fun z v1 hv1 v2 hv2 => ?_, fun z v1 hv1 v2 hv2 => ?_⟩
      · have q : anyB (smK f g p) p = true := by
          cases hc : anyB (smK f g p) p with
          | true => rfl
          | false => rw [hc] at z; exact absurd z (by decide)
        rw [nI_1] at hv2
        rw [nI_k0] at hv1
        rw [ee, if_neg (by simp [nwK, q])] at hh
        rw [hv1, hv2]
        exact hh
      · have q : anyB (smK f g p) p = false := by
          cases hc : anyB (smK f g p) p with
          | true => rw [hc] at z; exact absurd rfl z
          | false => rfl
        rw [nI_1] at hv2 hv1
        rw [ee, if_pos (by simp [nwK, q])] at hh
        rw [hv1, hv2]
        exact hh
  exact ⟨n + 1, key n 0 (by omega)⟩
theorem pC_24 {j : Nat} {σ : Mem} (I : Inv j σ) : wC_24 σ (Inv (j + 1)) := by
  obtain ⟨t, nB, nO, nP, htj, F, S⟩ := I.st
  have hO := F.1.2.1
  have e12 := F.1.2.2.2.2.1
  unfold wC_24 wX12_kinds wX13_kinds
  refine w_countKinds (n := nO) (f := fun q => rd σ 10 8 (55 + 3 * q)) (g := fun q => rd σ 10 8 (56 + 3 * q)) (S.2.2.1 0 (by decide)) (S.2.2.1 1 (by decide)) (S.2.2.1 2 (by decide)) hO (fun q hq => (S.2.2.2.2.2.1 q hq).2.1) (fun q hq => (S.2.2.2.2.2.1 q hq).2.2.1) ?_
  intro s1 h1
  subst h1
  exact w_kindsR (n := nO) (f := fun q => rd σ 10 8 (55 + 3 * q)) (g := fun q => rd σ 10 8 (56 + 3 * q)) e12 hO (fun q hq => rfl) (fun q hq => rfl) ⟨rfl, I.to (kp7 σ 0)⟩
