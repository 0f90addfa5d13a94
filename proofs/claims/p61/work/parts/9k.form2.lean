/-! THE FORM OF A SCRIPT: the class -/
/-- where the i-th command starts -/
def ps (s : Nat → Nat) : Nat → Nat
  | 0 => 0
  | i + 1 => (cm s (ps s i)).2 + 1
/-- the i-th command is one, and a semicolon follows -/
def Gs (s : Nat → Nat) (n i : Nat) : Prop := (cm s (ps s i)).1 = true ∧ ¬ (cm s (ps s i)).2 = n ∧ s (cm s (ps s i)).2 = 59
theorem cm_end (s : Nat → Nat) (p : Nat) : p ≤ (cm s p).2 ∧ (cm s p).2 ≤ p + 24 ∧ ((cm s p).1 = true → wn s p < 9 ∧ p + 4 ≤ (cm s p).2) := by
  have h9 := wn_9 s p
  have hcm : cm s p = if wn s p = 9 then (false, p) else if lc s p (wt (wn s p)) < (wt (wn s p)).length then (false, p + lc s p (wt (wn s p))) else ag s (dg (wn s p)) (nn (wn s p)) (p + (wt (wn s p)).length) := rfl
  obtain ⟨W, hW⟩ : ∃ W, W = wn s p := ⟨_, rfl⟩
  rw [← hW] at hcm h9 ⊢
  rw [hcm]
  by_cases e : W = 9
  · rw [if_pos e]
    exact ⟨Nat.le_refl _, Nat.le_add_right _ _, fun q => Bool.noConfusion q⟩
  rw [if_neg e]
  obtain ⟨c1, c2, c3, c4, c5, c6, c7⟩ := nums_c W (by omega)
  have l1 := lc_le s (wt W) p
  by_cases c : lc s p (wt W) < (wt W).length
  · rw [if_pos c]
    exact ⟨Nat.le_add_right _ _, by show p + lc s p (wt W) ≤ _; omega, fun q => Bool.noConfusion q⟩
  · rw [if_neg c]
    obtain ⟨a1, a2⟩ := ag_end s (dg W) (nn W) (p + (wt W).length)
    have : nn W * (dg W + 1) ≤ 3 * 4 := Nat.mul_le_mul c3 (by omega)
    exact ⟨by omega, by omega, fun _ => ⟨by omega, by omega⟩⟩
theorem ps_b {n : Nat} {a : Nat → Int32} : ∀ k : Nat, (∀ i : Nat, i < k → Gs (sg n a) n i) → 5 * k ≤ ps (sg n a) k ∧ (k = 0 ∨ ps (sg n a) k ≤ n) := by
  intro k
  induction k with
  | zero => intro _; exact ⟨Nat.le_refl _, Or.inl rfl⟩
  | succ k ih =>
    intro h
    obtain ⟨i1, i2⟩ := ih (fun i hi => h i (by omega))
    obtain ⟨g1, g2, g3⟩ := h k (by omega)
    obtain ⟨c1, c2, c3⟩ := cm_end (sg n a) (ps (sg n a) k)
    have := (c3 g1).2
    have : (cm (sg n a) (ps (sg n a) k)).2 < n := by
      by_cases q : (cm (sg n a) (ps (sg n a) k)).2 < n
      · exact q
      · rw [sg_out q] at g3
        omega
    show 5 * (k + 1) ≤ (cm (sg n a) (ps (sg n a) k)).2 + 1 ∧ _
    exact ⟨by omega, Or.inr (by show (cm (sg n a) (ps (sg n a) k)).2 + 1 ≤ n; omega)⟩
theorem ps_k {n : Nat} (hn : n ≤ 60) {a : Nat → Int32} {k : Nat} (h : ∀ i : Nat, i < k → Gs (sg n a) n i) : k ≤ 12 ∧ ps (sg n a) k ≤ 60 := by
  have := ps_b k h
  rcases this.2 with e | e
  · rw [e]
    exact ⟨by decide, Nat.zero_le _⟩
  · omega
/-- the last command that is read -/
theorem last_cm {n : Nat} (hn : n ≤ 60) (a : Nat → Int32) : ∃ K : Nat, (∀ i : Nat, i < K → Gs (sg n a) n i) ∧ ¬ Gs (sg n a) n K := by
  have key : ∀ d k : Nat, d + k = 13 → (∀ i : Nat, i < k → Gs (sg n a) n i) → ∃ K : Nat, (∀ i : Nat, i < K → Gs (sg n a) n i) ∧ ¬ Gs (sg n a) n K := by
    intro d
    induction d with
    | zero =>
      intro k e h
      have := (ps_k hn h).1
      omega
    | succ d ih =>
      intro k e h
      by_cases g : Gs (sg n a) n k
      · exact ih (k + 1) (by omega) (fun i hi => by
          by_cases c : i = k
          · rw [c]; exact g
          · exact h i (by omega))
      · exact ⟨k, h, g⟩
  exact key 13 0 rfl (fun i hi => absurd hi (Nat.not_lt_zero _))
/-- the script has the form -/
def OkF (s : Nat → Nat) (n K : Nat) : Prop := (cm s (ps s K)).1 = true ∧ (cm s (ps s K)).2 = n
/-- the i-th command, as the class keeps it -/
def CmC (s : Nat → Nat) (i : Nat) (τ : Mem) : Prop := wn s (ps s i) < 9 ∧ rd τ 12 0 i = nI (wn s (ps s i) + 1) ∧ ∀ q : Nat, q < nn (wn s (ps s i)) → rd τ 10 7 (3 * i + q) = nI (av s (dg (wn s (ps s i))) q (ps s i + (wt (wn s (ps s i))).length))
theorem CmC.on {s : Nat → Nat} {i : Nat} {σ τ : Mem} (h : CmC s i σ) (g : ∀ f k q : Nat, (f = 12 ∧ q = i) ∨ (f = 10 ∧ k = 7 ∧ 3 * i ≤ q ∧ q < 3 * i + 3) → rd τ f k q = rd σ f k q) : CmC s i τ := by
  obtain ⟨h1, h2, h3⟩ := h
  have := (nums_c _ h1).2.2.1
  exact ⟨h1, (g 12 0 i (Or.inl ⟨rfl, rfl⟩)).trans h2, fun q hq => (g 10 7 _ (Or.inr ⟨rfl, rfl, by omega, by omega⟩)).trans (h3 q hq)⟩
theorem w_form {n K : Nat} {a : Nat → Int32} {σ : Mem} {Q : Int32 → Mem → Prop} {E : String → Mem → Prop} (T : Txt σ 0 n a) (hn : n ≤ 60) (k1 : ∀ i : Nat, i < K → Gs (sg n a) n i) (k2 : ¬ Gs (sg n a) n K)
    (h : ∀ τ : Mem, (∀ f k' q : Nat, ¬ (f = 11 ∨ f = 12 ∨ (f = 10 ∧ k' = 7)) → rd τ f k' q = rd σ f k' q) → τ.2 = σ.2 → (¬ OkF (sg n a) n K → Q (nI (cm (sg n a) (ps (sg n a) K)).2) τ) ∧ (OkF (sg n a) n K → rd τ 11 0 3 = nI (K + 1) → (∀ i : Nat, i ≤ K → CmC (sg n a) i τ) → Q (-1) τ)) : wX8_readForm σ Q E := by
  intro s1 hs1 s2 hs2
  have hK := ps_k hn k1
  refine ⟨K + 1, ?_⟩
  have key : ∀ (d k : Nat) (u : Mem), d + k = K → (∀ f k' q : Nat, ¬ (f = 11 ∨ f = 12 ∨ (f = 10 ∧ k' = 7)) → rd u f k' q = rd σ f k' q) → u.2 = σ.2 → rd u 11 0 3 = nI k → rd u 11 0 4 = nI (ps (sg n a) k) → (∀ i : Nat, i < k → CmC (sg n a) i u) → wX8_readForm_10 Q E (fun (s10 : Mem) => Q (rd s10 11 0 4) s10) (fun (s11 : Mem) => Q ((-1)) s11) (fun (s12 : Mem) => Q (rd s12 11 0 4) s12) (fun (s13 : Mem) => Q (rd s13 11 0 4) s13) (d + 1) u := by
    intro d
    induction d with
    | zero => ?_
    | succ d ih => ?_
    all_goals
      intro k u e g g2 g3 g4 C
      have hk := ps_k (n := n) (a := a) hn (k := k) (fun i hi => k1 i (by omega))
      have T0 : Txt u 0 n a := T.rd (fun f k s hf => g f k s (by omega)) g2
      refine ⟨fun z => ?_, fun _ => ?_⟩
      · rw [g3, show (60 : Int32) = nI 60 from rfl, nI_leI (by omega) (by omega)] at z
        omega
      refine w_rdCmd T0 hn (k := k) (p := ps (sg n a) k) (by omega) (by omega) g3 g4 (fun τ t1 t2 => ?_)
      obtain ⟨c1, c2, c3⟩ := cm_end (sg n a) (ps (sg n a) k)
      have gτ : ∀ f k' q : Nat, ¬ (f = 11 ∨ f = 12 ∨ (f = 10 ∧ k' = 7)) → rd τ f k' q = rd σ f k' q := fun f k' q n1 => (t1.1 f k' q (by omega) (by omega) (by omega)).trans (g f k' q n1)
      have gτ2 : τ.2 = σ.2 := t1.2.trans g2
    · obtain rfl : k = K := by omega
      refine ⟨fun f => ⟨fun y => absurd rfl y, fun _ => ?_⟩, fun f fw f12 fv => ⟨fun _ s5 hs5 => ?_, fun y => absurd y (by decide)⟩⟩
      · show Q (rd τ 11 0 4) τ
        rw [t2]
        exact (h τ gτ gτ2).1 (fun z => Bool.noConfusion (f.symm.trans z.1))
      · rw [t1.1 11 0 3 (by omega) (by omega) (by omega), g3, nI_1] at hs5
        have h5 : ∀ f k' q : Nat, ¬ (f = 11 ∧ k' = 0 ∧ q = 3) → rd s5 f k' q = rd τ f k' q := fun f k' q n1 => by rw [hs5, rd_wr, if_neg n1]
        have h52 : s5.2 = τ.2 := by rw [hs5, wr_2]
        have g5 : ∀ f k' q : Nat, ¬ (f = 11 ∨ f = 12 ∨ (f = 10 ∧ k' = 7)) → rd s5 f k' q = rd σ f k' q := fun f k' q n1 => (h5 f k' q (by omega)).trans (gτ f k' q n1)
        have e5 : rd s5 11 0 4 = nI (cm (sg n a) (ps (sg n a) k)).2 := (h5 11 0 4 (by omega)).trans t2
        have T5 : Txt s5 0 n a := T.rd (fun f k s hf => g5 f k s (by omega)) (h52.trans gτ2)
        refine w_len T5.wb ⟨rfl, fun z => ?_, fun z => ?_⟩
        · rw [e5, nI_eq (by omega) (by omega)] at z
          refine w_rdSign (v := 59) T5 hn (by omega) e5 (by decide) (fun ne => ⟨fun y => absurd rfl y, fun _ => ?_⟩) (fun e => absurd ⟨f, z, e⟩ k2)
          show Q (rd s5 11 0 4) s5
          rw [e5]
          exact (h s5 g5 (h52.trans gτ2)).1 (fun y => z y.2)
        · rw [e5, nI_eq (by omega) (by omega)] at z
          refine (h s5 g5 (h52.trans gτ2)).2 ⟨f, z⟩ (by rw [hs5, rd_wr, if_pos ⟨rfl, rfl, rfl⟩]) (fun i hi => ?_)
          by_cases c : i = k
          · subst c
            have := (nums_c _ fw).2.2.1
            exact ⟨fw, (h5 12 0 i (by omega)).trans f12, fun q hq => (h5 10 7 _ (by omega)).trans (fv q hq)⟩
          · exact (C i (by omega)).on fun f' k' q hq => (h5 f' k' q (by omega)).trans (t1.1 f' k' q (by omega) (by omega) (by omega))
    · have G := k1 k (by omega)
      refine ⟨fun f => (by rw [G.1] at f; exact Bool.noConfusion f), fun f fw f12 fv => ⟨fun _ s5 hs5 => ?_, fun y => absurd y (by decide)⟩⟩
      rw [t1.1 11 0 3 (by omega) (by omega) (by omega), g3, nI_1] at hs5
      have h5 : ∀ f k' q : Nat, ¬ (f = 11 ∧ k' = 0 ∧ q = 3) → rd s5 f k' q = rd τ f k' q := fun f k' q n1 => by rw [hs5, rd_wr, if_neg n1]
      have h52 : s5.2 = τ.2 := by rw [hs5, wr_2]
      have g5 : ∀ f k' q : Nat, ¬ (f = 11 ∨ f = 12 ∨ (f = 10 ∧ k' = 7)) → rd s5 f k' q = rd σ f k' q := fun f k' q n1 => (h5 f k' q (by omega)).trans (gτ f k' q n1)
      have e5 : rd s5 11 0 4 = nI (cm (sg n a) (ps (sg n a) k)).2 := (h5 11 0 4 (by omega)).trans t2
      have T5 : Txt s5 0 n a := T.rd (fun f k s hf => g5 f k s (by omega)) (h52.trans gτ2)
      refine w_len T5.wb ⟨rfl, fun z => ?_, fun z => ?_⟩
      · refine w_rdSign (v := 59) T5 hn (by omega) e5 (by decide) (fun ne => absurd G.2.2 ne) (fun e => ⟨fun _ => ?_, fun y => absurd y (by decide)⟩)
        have h6 : ∀ f k' q : Nat, ¬ (f = 11 ∧ k' = 0 ∧ q = 4) → rd (wr s5 11 0 4 (nI ((cm (sg n a) (ps (sg n a) k)).2 + 1))) f k' q = rd s5 f k' q := fun f k' q n1 => by rw [rd_wr, if_neg n1]
        refine ih (k + 1) _ (by omega) (fun f' k' q n1 => (h6 f' k' q (by omega)).trans (g5 f' k' q n1)) ((wr_2 _ _ _ _ _).trans (h52.trans gτ2)) ?_ ?_ (fun i hi => ?_)
        · rw [h6 11 0 3 (by omega), hs5, rd_wr, if_pos ⟨rfl, rfl, rfl⟩]
        · rw [rd_wr, if_pos ⟨rfl, rfl, rfl⟩]
          rfl
        · by_cases c : i = k
          · subst c
            have := (nums_c _ fw).2.2.1
            exact ⟨fw, (h6 12 0 i (by omega)).trans ((h5 12 0 i (by omega)).trans f12), fun q hq => (h6 10 7 _ (by omega)).trans ((h5 10 7 _ (by omega)).trans (fv q hq))⟩
          · exact (C i (by omega)).on fun f' k' q hq => (h6 f' k' q (by omega)).trans ((h5 f' k' q (by omega)).trans (t1.1 f' k' q (by omega) (by omega) (by omega)))
      · rw [e5, nI_eq (by omega) (by omega)] at z
        exact absurd z G.2.1
  refine key K 0 s2 rfl (fun f k' q n1 => ?_) ?_ ?_ ?_ (fun i hi => absurd hi (Nat.not_lt_zero _))
  · rw [hs2, rd_wr, if_neg (by omega), hs1, rd_wr, if_neg (by omega)]
  · rw [hs2, wr_2, hs1, wr_2]
  · rw [hs2, rd_wr, if_pos ⟨rfl, rfl, rfl⟩]
    rfl
  · rw [hs2, rd_wr, if_neg (by omega), hs1, rd_wr, if_pos ⟨rfl, rfl, rfl⟩]
    rfl
