/-! THE SIGNS OF A SCRIPT: what stands where, and how far a word goes -/
/-- the sign at p; 200 behind the end -/
def sg (n : Nat) (a : Nat → Int32) (p : Nat) : Nat := if p < n then (a p).toNatClampNeg else 200
theorem sg_in {σ : Mem} {b n : Nat} {a : Nat → Int32} (T : Txt σ b n a) {p : Nat} (h : p < n) : rd σ 16 b p = nI (sg n a p) ∧ a p = nI (sg n a p) ∧ sg n a p < 128 := by
  obtain ⟨e, c, hc, e2⟩ := T.2.2.2.2.1 p h
  have hs : sg n a p = c := by
    unfold sg
    rw [if_pos h, e2, nI_clamp (by omega)]
  rw [hs, e, e2]
  exact ⟨rfl, rfl, hc⟩
theorem sg_out {n : Nat} {a : Nat → Int32} {p : Nat} (h : ¬ p < n) : sg n a p = 200 := if_neg h
theorem sg_200 {σ : Mem} {b n : Nat} {a : Nat → Int32} (T : Txt σ b n a) (p : Nat) : sg n a p ≤ 200 := by
  by_cases h : p < n
  · have := (sg_in T h).2.2
    omega
  · rw [sg_out h]
    exact Nat.le_refl _
/-- how many signs from p on are those of the word -/
def lc (s : Nat → Nat) : Nat → List Nat → Nat
  | _, [] => 0
  | p, b :: u => if s p = b then 1 + lc s (p + 1) u else 0
theorem lc_eq {s : Nat → Nat} {p b : Nat} {u : List Nat} (h : s p = b) : lc s p (b :: u) = 1 + lc s (p + 1) u := if_pos h
theorem lc_ne {s : Nat → Nat} {p b : Nat} {u : List Nat} (h : ¬ s p = b) : lc s p (b :: u) = 0 := if_neg h
theorem lc_le (s : Nat → Nat) : ∀ (u : List Nat) (p : Nat), lc s p u ≤ u.length := by
  intro u
  induction u with
  | nil => intro p; exact Nat.le_refl _
  | cons b u ih =>
    intro p
    have := ih (p + 1)
    unfold lc
    split
    · rw [List.length_cons]; omega
    · exact Nat.zero_le _
theorem lc_full {s : Nat → Nat} : ∀ (u : List Nat) (p : Nat), lc s p u = u.length → ∀ q : Nat, q < u.length → s (p + q) = u.getD q 0 := by
  intro u
  induction u with
  | nil => intro p _ q hq; exact absurd hq (Nat.not_lt_zero _)
  | cons b u ih =>
    intro p h q hq
    rw [List.length_cons] at h hq
    by_cases e : s p = b
    · rw [lc_eq e] at h
      cases q with
      | zero => exact e
      | succ q =>
        have := ih (p + 1) (by omega) q (by omega)
        rw [show p + (q + 1) = p + 1 + q by omega, this]
        rfl
    · rw [lc_ne e] at h
      omega
theorem lc_snoc {s : Nat → Nat} {c : Nat} : ∀ (u : List Nat) (p : Nat), (lc s p u < u.length → lc s p (u ++ [c]) = lc s p u) ∧ (lc s p u = u.length → lc s p (u ++ [c]) = u.length + (if s (p + u.length) = c then 1 else 0)) := by
  intro u
  induction u with
  | nil =>
    intro p
    refine ⟨fun h => absurd h (Nat.not_lt_zero _), fun _ => ?_⟩
    show (if s p = c then 1 + 0 else 0) = 0 + (if s (p + 0) = c then 1 else 0)
    simp
  | cons b u ih =>
    intro p
    obtain ⟨i1, i2⟩ := ih (p + 1)
    by_cases e : s p = b
    · rw [lc_eq e, List.cons_append, lc_eq e, List.length_cons, show p + (u.length + 1) = p + 1 + u.length by omega]
      refine ⟨fun h => by rw [i1 (by omega)], fun h => by rw [i2 (by omega)]; omega⟩
    · rw [lc_ne e, List.cons_append, lc_ne e, List.length_cons]
      exact ⟨fun _ => rfl, fun h => by omega⟩
/-- the words, without their spaces -/
def wt : Nat → List Nat
  | 0 => [98, 97, 108, 101]
  | 1 => [98, 108, 101, 110, 100]
  | 2 => [111, 114, 100, 101, 114]
  | 3 => [99, 97, 110, 99, 101, 108]
  | 4 => [109, 97, 99, 104, 105, 110, 101, 115]
  | 5 => [115, 112, 105, 110]
  | 6 => [115, 112, 108, 105, 99, 101]
  | 7 => [106, 111, 105, 110]
  | 8 => [115, 101, 108, 108]
  | _ => []
/-- the words with their spaces -/
def wl (j : Nat) : List Nat := if j = 7 ∨ 9 ≤ j then wt j else wt j ++ [32]
/-- the one word that the signs from p on can be -/
def wn (s : Nat → Nat) (p : Nat) : Nat :=
  if s p = 98 then (if s (p + 1) = 97 then 0 else 1) else if s p = 111 then 2 else if s p = 99 then 3 else if s p = 109 then 4 else if s p = 106 then 7 else if s p = 115 then (if s (p + 1) = 101 then 8 else if s (p + 1 + 1) = 105 then 5 else 6) else 9
theorem wn_9 (s : Nat → Nat) (p : Nat) : wn s p ≤ 9 := by
  unfold wn
  repeat' split
  all_goals omega
theorem lc_u1 {s : Nat → Nat} {p b c : Nat} {u : List Nat} (h : ¬ s (p + 1) = c) : lc s p (b :: c :: u) ≤ 1 := by
  by_cases e : s p = b
  · rw [lc_eq e, lc_ne h]
    omega
  · rw [lc_ne e]
    omega
theorem lc_u2 {s : Nat → Nat} {p b c d : Nat} {u : List Nat} (h : ¬ s (p + 1 + 1) = d) : lc s p (b :: c :: d :: u) ≤ 2 := by
  by_cases e : s p = b
  · have := lc_u1 (s := s) (p := p + 1) (b := c) (c := d) (u := u) h
    rw [lc_eq e]
    omega
  · rw [lc_ne e]
    omega
/-- no other word goes as far, and no other word is there -/
theorem wn_top (s : Nat → Nat) (p : Nat) : ∀ j : Nat, j < 9 → lc s p (wl j) ≤ lc s p (wl (wn s p)) ∧ (j ≠ wn s p → lc s p (wl j) < (wl j).length) := by
  intro j hj
  have e0 : wl 0 = [98, 97, 108, 101, 32] := rfl
  have e1 : wl 1 = [98, 108, 101, 110, 100, 32] := rfl
  have e2 : wl 2 = [111, 114, 100, 101, 114, 32] := rfl
  have e3 : wl 3 = [99, 97, 110, 99, 101, 108, 32] := rfl
  have e4 : wl 4 = [109, 97, 99, 104, 105, 110, 101, 115, 32] := rfl
  have e5 : wl 5 = [115, 112, 105, 110, 32] := rfl
  have e6 : wl 6 = [115, 112, 108, 105, 99, 101, 32] := rfl
  have e7 : wl 7 = [106, 111, 105, 110] := rfl
  have e8 : wl 8 = [115, 101, 108, 108, 32] := rfl
  have hd : ∀ i : Nat, i < 9 → (i = j) → lc s p (wl j) = 0 ∨ s p = (wl i).getD 0 0 := by
    rintro i hi rfl
    rcases i with _ | _ | _ | _ | _ | _ | _ | _ | _ | i
    all_goals first | omega | skip
    · rw [e0]; by_cases e : s p = 98; exact Or.inr e; exact Or.inl (lc_ne e)
    · rw [e1]; by_cases e : s p = 98; exact Or.inr e; exact Or.inl (lc_ne e)
    · rw [e2]; by_cases e : s p = 111; exact Or.inr e; exact Or.inl (lc_ne e)
    · rw [e3]; by_cases e : s p = 99; exact Or.inr e; exact Or.inl (lc_ne e)
    · rw [e4]; by_cases e : s p = 109; exact Or.inr e; exact Or.inl (lc_ne e)
    · rw [e5]; by_cases e : s p = 115; exact Or.inr e; exact Or.inl (lc_ne e)
    · rw [e6]; by_cases e : s p = 115; exact Or.inr e; exact Or.inl (lc_ne e)
    · rw [e7]; by_cases e : s p = 106; exact Or.inr e; exact Or.inl (lc_ne e)
    · rw [e8]; by_cases e : s p = 115; exact Or.inr e; exact Or.inl (lc_ne e)
  have hlen : 4 ≤ (wl j).length := by
    have : ∀ j : Nat, j < 9 → 4 ≤ (wl j).length := by decide
    exact this j hj
  have l1 : ∀ (p b : Nat) (u : List Nat), s p = b → 1 ≤ lc s p (b :: u) := fun p b u h => by rw [lc_eq h]; omega
  have l2 : ∀ (p b c : Nat) (u : List Nat), s p = b → s (p + 1) = c → 2 ≤ lc s p (b :: c :: u) := fun p b c u h h2 => by have := l1 (p + 1) c u h2; rw [lc_eq h]; omega
  have l3 : ∀ (p b c d : Nat) (u : List Nat), s p = b → s (p + 1) = c → s (p + 1 + 1) = d → 3 ≤ lc s p (b :: c :: d :: u) := fun p b c d u h h2 h3 => by have := l2 (p + 1) c d u h2 h3; rw [lc_eq h]; omega
  rcases hd j hj rfl with z | z
  · rw [z]
    exact ⟨Nat.zero_le _, fun _ => by omega⟩
  by_cases hw : j = wn s p
  · rw [← hw]
    exact ⟨Nat.le_refl _, fun q => absurd rfl q⟩
  -- the ends for the words that share letters
  have fin : ∀ m : Nat, m ≤ 2 → lc s p (wl j) ≤ m → m ≤ lc s p (wl (wn s p)) → lc s p (wl j) ≤ lc s p (wl (wn s p)) ∧ (j ≠ wn s p → lc s p (wl j) < (wl j).length) := fun m h1 h2 h3 => ⟨by omega, fun _ => by omega⟩
  rcases j with _ | _ | _ | _ | _ | _ | _ | _ | _ | j
  all_goals first | omega | skip
  · have z0 : s p = 98 := z
    by_cases c : s (p + 1) = 97
    · exact absurd (by unfold wn; rw [if_pos z0, if_pos c]) hw
    · have hn : wn s p = 1 := by unfold wn; rw [if_pos z0, if_neg c]
      rw [hn, e1] at fin ⊢
      exact fin 1 (by decide) (lc_u1 c) (l1 _ _ _ z0)
  · have z0 : s p = 98 := z
    by_cases c : s (p + 1) = 97
    · have hn : wn s p = 0 := by unfold wn; rw [if_pos z0, if_pos c]
      rw [hn, e0] at fin ⊢
      exact fin 1 (by decide) (lc_u1 (by omega)) (l1 _ _ _ z0)
    · exact absurd (by unfold wn; rw [if_pos z0, if_neg c]) hw
  · have z0 : s p = 111 := z
    exact absurd (by unfold wn; rw [if_neg (by omega), if_pos z0]) hw
  · have z0 : s p = 99 := z
    exact absurd (by unfold wn; rw [if_neg (by omega), if_neg (by omega), if_pos z0]) hw
  · have z0 : s p = 109 := z
    exact absurd (by unfold wn; rw [if_neg (by omega), if_neg (by omega), if_neg (by omega), if_pos z0]) hw
  · have z0 : s p = 115 := z
    have hu : wn s p = if s (p + 1) = 101 then 8 else if s (p + 1 + 1) = 105 then 5 else 6 := by unfold wn; rw [if_neg (by omega), if_neg (by omega), if_neg (by omega), if_neg (by omega), if_neg (by omega), if_pos z0]
    by_cases c : s (p + 1) = 101
    · have hn : wn s p = 8 := by rw [hu, if_pos c]
      rw [hn, e8] at fin ⊢
      exact fin 1 (by decide) (lc_u1 (by omega)) (l1 _ _ _ z0)
    · by_cases d : s (p + 1 + 1) = 105
      · exact absurd (by rw [hu, if_neg c, if_pos d]) hw
      · have hn : wn s p = 6 := by rw [hu, if_neg c, if_neg d]
        rw [hn, e6] at fin ⊢
        by_cases e : s (p + 1) = 112
        · exact fin 2 (by decide) (lc_u2 d) (l2 _ _ _ _ z0 e)
        · exact fin 1 (by decide) (lc_u1 e) (l1 _ _ _ z0)
  · have z0 : s p = 115 := z
    have hu : wn s p = if s (p + 1) = 101 then 8 else if s (p + 1 + 1) = 105 then 5 else 6 := by unfold wn; rw [if_neg (by omega), if_neg (by omega), if_neg (by omega), if_neg (by omega), if_neg (by omega), if_pos z0]
    by_cases c : s (p + 1) = 101
    · have hn : wn s p = 8 := by rw [hu, if_pos c]
      rw [hn, e8] at fin ⊢
      exact fin 1 (by decide) (lc_u1 (by omega)) (l1 _ _ _ z0)
    · by_cases d : s (p + 1 + 1) = 105
      · have hn : wn s p = 5 := by rw [hu, if_neg c, if_pos d]
        rw [hn, e5] at fin ⊢
        by_cases e : s (p + 1) = 112
        · exact fin 2 (by decide) (lc_u2 (by omega)) (l2 _ _ _ _ z0 e)
        · exact fin 1 (by decide) (lc_u1 e) (l1 _ _ _ z0)
      · exact absurd (by rw [hu, if_neg c, if_neg d]) hw
  · have z0 : s p = 106 := z
    exact absurd (by unfold wn; rw [if_neg (by omega), if_neg (by omega), if_neg (by omega), if_neg (by omega), if_pos z0]) hw
  · have z0 : s p = 115 := z
    have hu : wn s p = if s (p + 1) = 101 then 8 else if s (p + 1 + 1) = 105 then 5 else 6 := by unfold wn; rw [if_neg (by omega), if_neg (by omega), if_neg (by omega), if_neg (by omega), if_neg (by omega), if_pos z0]
    by_cases c : s (p + 1) = 101
    · exact absurd (by rw [hu, if_pos c]) hw
    · by_cases d : s (p + 1 + 1) = 105
      · have hn : wn s p = 5 := by rw [hu, if_neg c, if_pos d]
        rw [hn, e5] at fin ⊢
        exact fin 1 (by decide) (lc_u1 c) (l1 _ _ _ z0)
      · have hn : wn s p = 6 := by rw [hu, if_neg c, if_neg d]
        rw [hn, e6] at fin ⊢
        exact fin 1 (by decide) (lc_u1 c) (l1 _ _ _ z0)
/-- a number of at most d digits: its value, and where it ends -/
def rdN (s : Nat → Nat) : Nat → Nat → Nat → Nat × Nat
  | 0, p, v => (v, p)
  | d + 1, p, v => if 48 ≤ s p ∧ s p ≤ 57 then rdN s d (p + 1) (10 * v + (s p - 48)) else (v, p)
theorem rdN_end (s : Nat → Nat) : ∀ d p v : Nat, p ≤ (rdN s d p v).2 ∧ (rdN s d p v).2 ≤ p + d := by
  intro d
  induction d with
  | zero => intro p v; exact ⟨Nat.le_refl _, Nat.le_refl _⟩
  | succ d ih =>
    intro p v
    unfold rdN
    split
    · have := ih (p + 1) (10 * v + (s p - 48))
      omega
    · exact ⟨Nat.le_refl _, by show p ≤ p + (d + 1); omega⟩
/-- m numbers, each behind a space -/
def ag (s : Nat → Nat) (D : Nat) : Nat → Nat → Bool × Nat
  | 0, p => (true, p)
  | m + 1, p => if s p = 32 then (if (rdN s D (p + 1) 0).2 = p + 1 then (false, p + 1) else ag s D m (rdN s D (p + 1) 0).2) else (false, p)
def av (s : Nat → Nat) (D : Nat) : Nat → Nat → Nat
  | 0, p => (rdN s D (p + 1) 0).1
  | q + 1, p => av s D q (rdN s D (p + 1) 0).2
/-- how many numbers, and how many digits -/
def nn (j : Nat) : Nat := [3, 2, 2, 1, 1, 1, 1, 0, 1].getD j 0
def dg (j : Nat) : Nat := if j = 4 then 1 else 3
/-- a command: is it one, and where does it end or fail -/
def cm (s : Nat → Nat) (p : Nat) : Bool × Nat :=
  if wn s p = 9 then (false, p) else if lc s p (wt (wn s p)) < (wt (wn s p)).length then (false, p + lc s p (wt (wn s p))) else ag s (dg (wn s p)) (nn (wn s p)) (p + (wt (wn s p)).length)
