/-! KINDS OF ORDERS -/
def anyB (P : Nat → Bool) : Nat → Bool
  | 0 => false
  | n + 1 => anyB P n || P n
theorem anyB_at {P : Nat → Bool} {n i : Nat} (h : i < n) (hi : P i = true) : anyB P n = true := by
  induction n with
  | zero => exact absurd h (Nat.not_lt_zero i)
  | succ n ih =>
    show (anyB P n || P n) = true
    by_cases c : i = n
    · subst c
      rw [hi, Bool.or_true]
    · rw [ih (by omega), Bool.true_or]
/-- orders b and p are of one kind -/
def smK (f g : Nat → Int32) (p b : Nat) : Bool := decide (f b = f p) && decide (g b = g p)
theorem w_firstOfKind {n p : Nat} {f g : Nat → Int32} {σ : Mem} {Q : Int32 → Mem → Prop} {E : String → Mem → Prop} (h6 : rd σ 0 6 1 = nI n) (h7 : rd σ 0 7 1 = nI n) (hn : n ≤ 8) (hf : ∀ q : Nat, q < n → rd σ 1 6 q = f q) (hg : ∀ q : Nat, q < n → rd σ 1 7 q = g q) (hp : p < n)
    (h1 : anyB (smK f g p) p = false → Q 1 σ) (h0 : anyB (smK f g p) p = true → Q 0 σ) : wX5_isFirstOfKind 0 (nI p) σ Q E := by
  have key : ∀ m b : Nat, b + m = p → anyB (smK f g p) b = false → wX5_isFirstOfKind_2 0 Q E (fun s => Q 0 s) (fun s => Q 1 s) (m + 1) (nI p) (nI b) σ := by
    intro m
    induction m with
    | zero =>
      intro b hb ha
      obtain rfl : b = p := by omega
      exact ⟨fun _ => h1 ha, fun r => absurd (nI_le (Nat.le_refl _) (by omega)) r⟩
    | succ m ih =>
      intro b hb ha
      have go : smK f g p b = false → ∀ v2 : Int32, v2 = nI b + 1 → wX5_isFirstOfKind_2 0 Q E (fun s => Q 0 s) (fun s => Q 1 s) (m + 1) (nI p) v2 σ := by
        intro q v2 hv
        rw [nI_1] at hv
        subst hv
        exact ih (b + 1) (by omega) (by show (anyB (smK f g p) b || smK f g p b) = false; rw [ha, q]; rfl)
      refine ⟨fun r => absurd r (nI_ge (by omega) (by omega)), fun _ => ?_⟩
      refine w_get (k := 6) (n := n) (i := b) h6 (by omega) hn rfl (w_get (k := 6) (n := n) (i := p) h6 hp hn rfl ?_)
      rw [hf b (by omega), hf p hp]
      refine ⟨fun r => go (by simp [smK, r]), fun r => ?_⟩
      refine w_get (k := 7) (n := n) (i := b) h7 (by omega) hn rfl (w_get (k := 7) (n := n) (i := p) h7 hp hn rfl ?_)
      rw [hg b (by omega), hg p hp]
      exact ⟨fun r2 => go (by simp [smK, r2]), fun r2 => h0 (anyB_at (i := b) (by omega) (by simp [smK, r, r2]))⟩
  exact ⟨p + 1, key p 0 (by omega) rfl⟩
def nwK (f g : Nat → Int32) (p : Nat) : Bool := !(anyB (smK f g p) p)
theorem w_countKinds {n : Nat} {f g : Nat → Int32} {σ : Mem} {Q : Int32 → Mem → Prop} {E : String → Mem → Prop} (h5 : rd σ 0 5 1 = nI n) (h6 : rd σ 0 6 1 = nI n) (h7 : rd σ 0 7 1 = nI n) (hn : n ≤ 8) (hf : ∀ q : Nat, q < n → rd σ 1 6 q = f q) (hg : ∀ q : Nat, q < n → rd σ 1 7 q = g q)
    (h : Q (nI (cntB (nwK f g) n)) σ) : wX5_countKinds 0 σ Q E := by
  have key : ∀ m p : Nat, p + m = n → wX5_countKinds_4 0 Q E (fun x s => Q x s) (m + 1) (nI (cntB (nwK f g) p)) (nI p) σ := by
    intro m
    induction m with
    | zero =>
      intro p hp
      obtain rfl : p = n := by omega
      exact ⟨fun _ => h, fun r => absurd (show rd σ 0 5 1 ≤ nI p from h5 ▸ nI_le (Nat.le_refl p) (by omega)) r⟩
    | succ m ih =>
      intro p hp
      have hh := ih (p + 1) (by omega)
      refine ⟨fun r => absurd (show nI n ≤ nI p from h5 ▸ r) (nI_ge (by omega) (by omega)), fun _ => ?_⟩
      refine w_firstOfKind h6 h7 hn hf hg (by omega) (fun q => ⟨fun z => absurd z (by decide), fun _ v1 hv1 v2 hv2 => ?_⟩) (fun q => ⟨fun _ v2 hv2 => ?_, fun z => absurd rfl z⟩)
      · rw [nI_1] at hv1 hv2
        rw [hv1, hv2]
        have e : cntB (nwK f g) (p + 1) = cntB (nwK f g) p + 1 := by
          show cntB (nwK f g) p + (if nwK f g p then 1 else 0) = _
          rw [if_pos (by simp [nwK, q])]
        rw [← e]
        exact hh
      · rw [nI_1] at hv2
        rw [hv2]
        have e : cntB (nwK f g) (p + 1) = cntB (nwK f g) p := by
          show cntB (nwK f g) p + (if nwK f g p then 1 else 0) = _
          rw [if_neg (by simp [nwK, q])]
          rfl
        rw [← e]
        exact hh
  exact ⟨n + 1, key n 0 (by omega)⟩
