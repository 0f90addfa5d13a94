/-! A SCRIPT READ: commands and the form, the class -/
theorem w_rdSign {n p v : Nat} {a : Nat → Int32} {σ : Mem} {Q : Int32 → Mem → Prop} {E : String → Mem → Prop} (T : Txt σ 0 n a) (hn : n ≤ 60) (hp : p ≤ 1000) (h4 : rd σ 11 0 4 = nI p) (hv : v < 128) (h0 : ¬ sg n a p = v → Q 0 σ) (h1 : sg n a p = v → Q 1 (wr σ 11 0 4 (nI (p + 1)))) : wX8_readSign (nI v) σ Q E := by
  unfold wX8_readSign
  refine w_isSg T hn hp h4 hv (fun ne => ⟨fun z => absurd rfl z, fun _ => h0 ne⟩) (fun e => ⟨fun _ s hs => ?_, fun z => absurd z (by decide)⟩)
  rw [h4, nI_1] at hs
  subst hs
  exact h1 e
theorem nums_c : ∀ j : Nat, j < 9 → ([3, 2, 2, 1, 1, 1, 1, 0, 1] : List Int32).getD j 0 = nI (nn j) ∧ (j = 7 ∨ ([3, 3, 3, 3, 1, 3, 3, 0, 3] : List Int32).getD j 0 = nI (dg j)) ∧ nn j ≤ 3 ∧ dg j ≤ 3 ∧ (nn j = 0 ↔ j = 7) ∧ 4 ≤ (wt j).length ∧ (wt j).length ≤ 8 := by decide +kernel
theorem ag_0 (s : Nat → Nat) (D p : Nat) : ag s D 0 p = (true, p) := rfl
theorem ag_n {s : Nat → Nat} {D m p : Nat} (h : ¬ s p = 32) : ag s D (m + 1) p = (false, p) := if_neg h
theorem ag_e {s : Nat → Nat} {D m p : Nat} (h : s p = 32) (h2 : (rdN s D (p + 1) 0).2 = p + 1) : ag s D (m + 1) p = (false, p + 1) := by
  unfold ag
  rw [if_pos h, if_pos h2]
theorem ag_s {s : Nat → Nat} {D m p : Nat} (h : s p = 32) (h2 : ¬ (rdN s D (p + 1) 0).2 = p + 1) : ag s D (m + 1) p = ag s D m (rdN s D (p + 1) 0).2 := by
  rw [show ag s D (m + 1) p = if s p = 32 then (if (rdN s D (p + 1) 0).2 = p + 1 then (false, p + 1) else ag s D m (rdN s D (p + 1) 0).2) else (false, p) from rfl, if_pos h, if_neg h2]
theorem ag_end (s : Nat → Nat) (D : Nat) : ∀ m p : Nat, p ≤ (ag s D m p).2 ∧ (ag s D m p).2 ≤ p + m * (D + 1) := by
  intro m
  induction m with
  | zero => intro p; exact ⟨Nat.le_refl _, by rw [Nat.zero_mul]; exact Nat.le_refl _⟩
  | succ m ih =>
    intro p
    have hm : (m + 1) * (D + 1) = m * (D + 1) + (D + 1) := Nat.succ_mul _ _
    by_cases h : s p = 32
    · by_cases h2 : (rdN s D (p + 1) 0).2 = p + 1
      · rw [ag_e h h2]
        exact ⟨Nat.le_succ p, by show p + 1 ≤ _; omega⟩
      · rw [ag_s h h2]
        have := rdN_end s D (p + 1) 0
        have := ih (rdN s D (p + 1) 0).2
        omega
    · rw [ag_n h]
      exact ⟨Nat.le_refl _, Nat.le_add_right _ _⟩
/-- what reading numbers from p on ends with -/
def ArgR (k i m D p : Nat) (s : Nat → Nat) (u : Mem) (Q : Int32 → Mem → Prop) : Prop :=
  ∀ τ : Mem, (∀ f k' q : Nat, ¬ (f = 11 ∧ k' = 0 ∧ q = 4) → ¬ (f = 10 ∧ k' = 7 ∧ 3 * k + i ≤ q ∧ q < 3 * k + i + m) → rd τ f k' q = rd u f k' q) → τ.2 = u.2 → rd τ 11 0 4 = nI (ag s D m p).2 → ((ag s D m p).1 = false → Q 0 τ) ∧ ((ag s D m p).1 = true → (∀ q : Nat, q < m → rd τ 10 7 (3 * k + i + q) = nI (av s D q p)) → Q 1 τ)
theorem ArgR.next {k i m D p : Nat} {s : Nat → Nat} {u τ : Mem} {Q : Int32 → Mem → Prop} (A : ArgR k i (m + 1) D p s u Q) (h : s p = 32) (h2 : ¬ (rdN s D (p + 1) 0).2 = p + 1)
    (g : ∀ f k' q : Nat, ¬ (f = 11 ∧ k' = 0 ∧ q = 4) → ¬ (f = 10 ∧ k' = 7 ∧ q = 3 * k + i) → rd τ f k' q = rd u f k' q) (g2 : τ.2 = u.2) (e : rd τ 10 7 (3 * k + i) = nI (rdN s D (p + 1) 0).1) : ArgR k (i + 1) m D (rdN s D (p + 1) 0).2 s τ Q := by
  intro y y1 y2 y3
  unfold ArgR at A
  rw [ag_s h h2] at A
  obtain ⟨b1, b2⟩ := A y (fun f k' q n1 n2 => (y1 f k' q n1 (by omega)).trans (g f k' q n1 (by omega))) (y2.trans g2) y3
  refine ⟨b1, fun c d => b2 c (fun q hq => ?_)⟩
  cases q with
  | zero =>
    rw [Nat.add_zero, y1 10 7 _ (by omega) (by omega)]
    exact e
  | succ q =>
    rw [show 3 * k + i + (q + 1) = 3 * k + (i + 1) + q by omega]
    exact d q (by omega)
theorem w_args {n k j : Nat} {a : Nat → Int32} {Q : Int32 → Mem → Prop} {E : String → Mem → Prop} (hn : n ≤ 60) (hk : k < 60) (hj : j < 9) : ∀ (m i p : Nat) (u : Mem), i + m = nn j → 1 ≤ i → p + 4 * m ≤ 700 → Txt u 0 n a → rd u 11 0 3 = nI k → rd u 11 0 4 = nI p →
    ArgR k i m (dg j) p (sg n a) u Q → wX8_readCommand_23 j Q E (fun (s13 : Mem) => Q 0 s13) (fun (s14 : Mem) => Q 0 s14) (fun (s15 : Mem) => Q 1 s15) (m + 1) (nI i) u := by
  obtain ⟨c1, c2, c3, c4, c5, -⟩ := nums_c j hj
  intro m
  induction m with
  | zero =>
    intro i p u e1 e2 e3 T h3 h4 A
    refine ⟨fun _ => ?_, fun z => absurd ?_ z⟩
    · exact (A u (fun _ _ _ _ _ => rfl) rfl h4).2 rfl (fun q hq => absurd hq (Nat.not_lt_zero _))
    · rw [c1, nI_leI (by omega) (by omega)]
      omega
  | succ m ih =>
    intro i p u e1 e2 e3 T h3 h4 A
    have hD : ([3, 3, 3, 3, 1, 3, 3, 0, 3] : List Int32).getD j 0 = nI (dg j) := c2.resolve_left (fun z => by have := c5.mpr z; omega)
    refine ⟨fun z => ?_, fun _ => ⟨fun z => ?_, fun _ => ?_⟩⟩
    · rw [c1, nI_leI (by omega) (by omega)] at z
      omega
    · rw [show (0 : Int32) = nI 0 from rfl, nI_leI (by omega) (by omega)] at z
      omega
    refine w_rdSign (v := 32) T hn (by omega) h4 (by decide) (fun ne => ⟨fun z => absurd rfl z, fun _ => ?_⟩) (fun e => ⟨fun _ => ?_, fun z => absurd z (by decide)⟩)
    · exact (A u (fun _ _ _ _ _ => rfl) rfl (by rw [ag_n ne]; exact h4)).1 (by rw [ag_n ne])
    · obtain ⟨u1, hu1⟩ : ∃ u1, u1 = wr u 11 0 4 (nI (p + 1)) := ⟨_, rfl⟩
      rw [← hu1]
      have g1 : ∀ f k' q : Nat, ¬ (f = 11 ∧ k' = 0 ∧ q = 4) → rd u1 f k' q = rd u f k' q := fun f k' q n1 => by rw [hu1, rd_wr, if_neg n1]
      have g2 : u1.2 = u.2 := by rw [hu1, wr_2]
      have g4 : rd u1 11 0 4 = nI (p + 1) := by rw [hu1, rd_wr, if_pos ⟨rfl, rfl, rfl⟩]
      have T1 : Txt u1 0 n a := T.rd (fun f k s hf => g1 f k s (by omega)) g2
      rw [g1 11 0 3 (by omega), h3, hD, show (3 : Int32) = nI 3 from rfl, pk_mul, nI_add, show k * 3 + i = 3 * k + i by omega]
      refine w_num T1 hn (p := p + 1) (x := 3 * k + i) (D := dg j) (by omega) g4 c4 (by omega) (fun τ t1 t2 t3 => ⟨fun z => ⟨fun y => absurd rfl y, fun _ => ?_⟩, fun z v => ⟨fun _ v2 hv2 => ?_, fun y => absurd y (by decide)⟩⟩)
      · refine (A τ (fun f k' q n1 n2 => (t1 f k' q n1 (by omega)).trans (g1 f k' q n1)) (t2.trans g2) ?_).1 (by rw [ag_e e z])
        rw [ag_e e z, t3, z]
      · rw [nI_1] at hv2
        subst hv2
        have := rdN_end (sg n a) (dg j) (p + 1) 0
        refine ih (i + 1) _ τ (by omega) (by omega) (by omega) (T1.rd (fun f k s hf => t1 f k s (by omega) (by omega)) t2) ((t1 11 0 3 (by omega) (by omega)).trans ((g1 11 0 3 (by omega)).trans h3)) t3 ?_
        exact A.next e z (fun f k' q n1 n2 => (t1 f k' q n1 n2).trans (g1 f k' q n1)) (t2.trans g2) v
/-- what a command's reading may change in the class -/
def FPc (k : Nat) (σ τ : Mem) : Prop := (∀ f k' q : Nat, ¬ (f = 11 ∧ k' = 0 ∧ q = 4) → ¬ (f = 12 ∧ k' = 0 ∧ q = k) → ¬ (f = 10 ∧ k' = 7 ∧ 3 * k ≤ q ∧ q < 3 * k + 3) → rd τ f k' q = rd σ f k' q) ∧ τ.2 = σ.2
theorem wl_eq {j : Nat} (hj : j < 9) : wl j = if j = 7 then wt j else wt j ++ [32] := by
  unfold wl
  by_cases c : j = 7
  · rw [if_pos (Or.inl c), if_pos c]
  · rw [if_neg (by omega), if_neg c]
theorem w_rdCmd {n k p : Nat} {a : Nat → Int32} {σ : Mem} {Q : Int32 → Mem → Prop} {E : String → Mem → Prop} (T : Txt σ 0 n a) (hn : n ≤ 60) (hk : k < 60) (hp : p ≤ 100) (h3 : rd σ 11 0 3 = nI k) (h4 : rd σ 11 0 4 = nI p)
    (h : ∀ τ : Mem, FPc k σ τ → rd τ 11 0 4 = nI (cm (sg n a) p).2 → ((cm (sg n a) p).1 = false → Q 0 τ) ∧ ((cm (sg n a) p).1 = true → wn (sg n a) p < 9 → rd τ 12 0 k = nI (wn (sg n a) p + 1) → (∀ q : Nat, q < nn (wn (sg n a) p) → rd τ 10 7 (3 * k + q) = nI (av (sg n a) (dg (wn (sg n a) p)) q (p + (wt (wn (sg n a) p)).length))) → Q 1 τ)) : wX8_readCommand σ Q E := by
  unfold wX8_readCommand
  have h9 := wn_9 (sg n a) p
  have hcm : cm (sg n a) p = if wn (sg n a) p = 9 then (false, p) else if lc (sg n a) p (wt (wn (sg n a) p)) < (wt (wn (sg n a) p)).length then (false, p + lc (sg n a) p (wt (wn (sg n a) p))) else ag (sg n a) (dg (wn (sg n a) p)) (nn (wn (sg n a) p)) (p + (wt (wn (sg n a) p)).length) := rfl
  have bad : ∀ e : Nat, cm (sg n a) p = (false, e) → Q 0 (wr σ 11 0 4 (nI e)) := fun e he => by
    refine (h _ ⟨fun f k' q n1 _ _ => by rw [rd_wr, if_neg n1], wr_2 _ _ _ _ _⟩ ?_).1 (by rw [he])
    rw [rd_wr, if_pos ⟨rfl, rfl, rfl⟩, he]
  obtain ⟨W, hW⟩ : ∃ W, W = wn (sg n a) p := ⟨_, rfl⟩
  refine w_word T hn (by omega) h4 (fun hw hf => ⟨fun z => (nomatch z), fun j hjs => ?_⟩) (fun hw => ⟨fun _ => ?_, fun j z => (nomatch z)⟩)
  rotate_left
  · rw [← hW] at hw hcm h9 ⊢
    refine bad _ ?_
    rw [hcm]
    rcases hw with e | e
    · rw [if_pos e, e]
      rfl
    · by_cases e9 : W = 9
      · rw [if_pos e9, e9]
        rfl
      rw [if_neg e9]
      have hll := wl_eq (j := W) (by omega)
      by_cases e7 : W = 7
      · rw [if_pos e7] at hll
        rw [hll] at e ⊢
        rw [if_pos e]
      · rw [if_neg e7] at hll
        obtain ⟨s1, s2⟩ := lc_snoc (s := sg n a) (c := 32) (wt W) p
        have := lc_le (sg n a) (wt W) p
        by_cases c : lc (sg n a) p (wt W) < (wt W).length
        · rw [if_pos c, hll, s1 c]
        · have c2 := s2 (by omega)
          rw [if_neg c, hll, c2]
          rw [hll, c2, List.length_append] at e
          have ne : ¬ sg n a (p + (wt W).length) = 32 := fun z => by
            rw [if_pos z] at e
            exact absurd e (Nat.lt_irrefl _)
          rw [if_neg ne]
          obtain ⟨m, hm⟩ : ∃ m, nn W = m + 1 := ⟨nn W - 1, by have := (nums_c W (by omega)).2.2.2.2.1; omega⟩
          rw [hm, ag_n ne]
          rfl
  · have ej : j = W := by
      rw [hW]
      exact (Option.some.inj hjs).symm
    subst ej
    rw [← hW] at hw hf hcm h9 h ⊢
    clear hjs
    obtain ⟨c1, c2, c3, c4, c5, c6, c7⟩ := nums_c j hw
    obtain ⟨P, hP⟩ : ∃ P, P = p + (wl j).length := ⟨_, rfl⟩
    have hll := wl_eq hw
    -- the word without its space, and the space
    have hw2 : ¬ lc (sg n a) p (wt j) < (wt j).length ∧ (j ≠ 7 → sg n a (p + (wt j).length) = 32 ∧ (wl j).length = (wt j).length + 1) ∧ (j = 7 → wl j = wt j) := by
      by_cases e7 : j = 7
      · rw [if_pos e7] at hll
        rw [hll] at hf
        exact ⟨by omega, fun z => absurd e7 z, fun _ => hll⟩
      · rw [if_neg e7] at hll
        obtain ⟨s1, s2⟩ := lc_snoc (s := sg n a) (c := 32) (wt j) p
        have := lc_le (sg n a) (wt j) p
        have hl1 : (wl j).length = (wt j).length + 1 := by rw [hll, List.length_append]; rfl
        rw [hl1, hll] at hf
        have nl : ¬ lc (sg n a) p (wt j) < (wt j).length := fun z => by
          have := s1 z
          omega
        refine ⟨nl, fun _ => ⟨?_, hl1⟩, fun z => absurd z e7⟩
        have c := s2 (by omega)
        by_cases z : sg n a (p + (wt j).length) = 32
        · exact z
        · rw [if_neg z] at c
          omega
    obtain ⟨nl, sp, w7⟩ := hw2
    have hcm2 : cm (sg n a) p = ag (sg n a) (dg j) (nn j) (p + (wt j).length) := by
      rw [hcm, if_neg (by omega), if_neg nl]
    rw [hcm2] at h
    obtain ⟨u, hu⟩ : ∃ u, u = wr σ 11 0 4 (nI (p + (wl j).length)) := ⟨_, rfl⟩
    rw [← hu, show rd u 11 0 3 = nI k by rw [hu, rd_wr, if_neg (by omega)]; exact h3]
    refine ⟨vp_in_nI hk (by decide), fun s4 hs4 => ?_⟩
    rw [nI_clamp (by omega)] at hs4
    have g : ∀ f k' q : Nat, ¬ (f = 11 ∧ k' = 0 ∧ q = 4) → ¬ (f = 12 ∧ k' = 0 ∧ q = k) → rd s4 f k' q = rd σ f k' q := fun f k' q n1 n2 => by rw [hs4, rd_wr, if_neg n2, hu, rd_wr, if_neg n1]
    have g2 : s4.2 = σ.2 := by rw [hs4, wr_2, hu, wr_2]
    have g4 : rd s4 11 0 4 = nI (p + (wl j).length) := by rw [hs4, rd_wr, if_neg (by omega), hu, rd_wr, if_pos ⟨rfl, rfl, rfl⟩]
    have g3 : rd s4 11 0 3 = nI k := (g 11 0 3 (by omega) (by omega)).trans h3
    have g12 : rd s4 12 0 k = nI (j + 1) := by rw [hs4, rd_wr, if_pos ⟨rfl, rfl, rfl⟩]
    have T4 : Txt s4 0 n a := T.rd (fun f k s hf => g f k s (by omega) (by omega)) g2
    have A : ArgR k 0 (nn j) (dg j) (p + (wt j).length) (sg n a) s4 Q := by
      intro τ t1 t2 t3
      obtain ⟨b1, b2⟩ := h τ ⟨fun f k' q n1 n2 n3 => (t1 f k' q n1 (by omega)).trans (g f k' q n1 n2), t2.trans g2⟩ t3
      exact ⟨b1, fun x y => b2 x hw ((t1 12 0 k (by omega) (by omega)).trans g12) y⟩
    clear h bad
    refine ⟨nn j + 1, ?_⟩
    by_cases e7 : j = 7
    · have e0 := c5.mpr e7
      rw [e0] at A ⊢
      refine ⟨fun _ => ?_, fun z => absurd ?_ z⟩
      · refine (A s4 (fun _ _ _ _ _ => rfl) rfl ?_).2 rfl (fun q hq => absurd hq (Nat.not_lt_zero _))
        rw [g4, w7 e7, ag_0]
      · rw [c1, e0]
        decide
    · obtain ⟨sp1, sp2⟩ := sp e7
      have hD : ([3, 3, 3, 3, 1, 3, 3, 0, 3] : List Int32).getD j 0 = nI (dg j) := c2.resolve_left e7
      obtain ⟨m, hm⟩ : ∃ m, nn j = m + 1 := ⟨nn j - 1, by omega⟩
      rw [hm] at A ⊢
      rw [sp2, ← Nat.add_assoc] at g4
      refine ⟨fun z => ?_, fun _ => ⟨fun _ => ?_, fun z => absurd (by decide) z⟩⟩
      · rw [c1, show (0 : Int32) = nI 0 from rfl, nI_leI (by omega) (by omega)] at z
        omega
      rw [g3, hD, show (3 : Int32) = nI 3 from rfl, pk_mul, show (0 : Int32) = nI 0 from rfl, nI_add, show k * 3 + 0 = 3 * k + 0 by omega]
      refine w_num T4 hn (p := p + (wt j).length + 1) (x := 3 * k + 0) (D := dg j) (by omega) g4 c4 (by omega) (fun τ t1 t2 t3 => ⟨fun z => ⟨fun y => absurd rfl y, fun _ => ?_⟩, fun z v => ⟨fun _ v2 hv2 => ?_, fun y => absurd y (by decide)⟩⟩)
      · refine (A τ (fun f k' q n1 n2 => t1 f k' q n1 (by omega)) t2 ?_).1 (by rw [ag_e sp1 z])
        rw [ag_e sp1 z, t3, z]
      · rw [nI_1] at hv2
        subst hv2
        have := rdN_end (sg n a) (dg j) (p + (wt j).length + 1) 0
        refine w_args hn hk hw m 1 _ τ (by omega) (Nat.le_refl _) (by omega) (T4.rd (fun f k s hf => t1 f k s (by omega) (by omega)) t2) ((t1 11 0 3 (by omega) (by omega)).trans g3) t3 ?_
        exact A.next sp1 z t1 t2 v
