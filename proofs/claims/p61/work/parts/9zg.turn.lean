/-! A TURN OF THE LAW -/
theorem FrS.ou {σ τ : Mem} (h : FrS σ τ) (g : Ou σ) : Ou τ := h.ps.ou g
theorem FrS.r19 {σ τ : Mem} (h : FrS σ τ) (k s : Nat) : rd τ 19 k s = rd σ 19 k s := h.1 19 k s (by unfold scc; omega)
theorem Ps.r19 {σ τ : Mem} (h : Ps σ τ) (k s : Nat) : rd τ 19 k s = rd σ 19 k s := h.1 19 k s (Or.inl rfl)
/-- seen over a sound mill: the mill stays as it is -/
theorem seen_J {t nC nx nB nO nP k : Nat} {a : Nat → Int32} {σ : Mem} {Q : Mem → Prop} {E : String → Mem → Prop} (I : J t nC nx nB nO nP a σ) (h : ∀ τ : Mem, J t nC nx nB nO nP a τ → (∀ f' k' s : Nat, ¬ (f' = 19 ∧ k' = k) → rd τ f' k' s = rd σ f' k' s) → τ.2 = σ.2 → (∀ s : Nat, rd τ 19 k s = snF nB nO nP a s) → Q τ) : wL_seen k σ Q E := by
  have I0 := I
  obtain ⟨⟨-, -, ht⟩, F, G, S, -⟩ := I
  exact w_seen ht F G S (fun τ h1 h2 h3 => h τ (I0.cg fun f k' s hf => h1 f k' s (by omega)) h1 h2 h3)
theorem ou_same {σ τ : Mem} {k : Nat} (h1 : ∀ f' k' s : Nat, ¬ (f' = 19 ∧ k' = k) → rd τ f' k' s = rd σ f' k' s) (h2 : τ.2 = σ.2) (o : Ou σ) : Ou τ := Txt.on (fun s => h1 13 1 s (by omega)) (fun s => h1 16 1 s (by omega)) (by rw [h2]) (fun _ => rfl) o
theorem sg_same {σ τ : Mem} {k : Nat} (h1 : ∀ f' k' s : Nat, ¬ (f' = 19 ∧ k' = k) → rd τ f' k' s = rd σ f' k' s) (h2 : τ.2 = σ.2) (o : Sg σ) : Sg τ := Txt.on (fun s => h1 13 0 s (by omega)) (fun s => h1 16 0 s (by omega)) (by rw [h2]) (fun _ => rfl) o
theorem ref_n9 {r : Int32} (h : Ref r) : ¬ r = -900009 ∧ ¬ -900000 < r ∧ r ≤ -900000 := by
  rcases h with rfl | rfl | rfl <;> decide
theorem an_n9 {v : Int32} (h : An v) : ¬ v = -900009 ∧ -900000 < v ∧ ¬ v ≤ -900000 := by
  obtain ⟨w, h1, rfl⟩ := h
  have e : (nI w).toInt = (w : Int) := nI_toInt (by omega)
  refine ⟨fun q => ?_, ?_, fun q => ?_⟩
  · rw [q] at e
    have : (-900009 : Int32).toInt = -900009 := by decide
    omega
  · rw [Int32.lt_iff_toInt_lt, e]
    have : (-900000 : Int32).toInt = -900000 := by decide
    omega
  · rw [Int32.le_iff_toInt_le, e] at q
    have : (-900000 : Int32).toInt = -900000 := by decide
    omega
section TU
variable {S : Scr} {Q : Int32 → Mem → Prop} {E : String → Mem → Prop}
theorem w_turn {nd sp : Nat} {v2 v3 : Int32} (hS : S.1 ≤ 260) (h1 : 1 ≤ nd ∧ nd ≤ 500 ∧ v2 = nI nd) (h2 : 10 ≤ sp ∧ sp ≤ 60 ∧ v3 = nI sp) (hT : ∀ (k : Nat) (τ : Mem), Bg 440 τ → wL_law_159 S Q E k v2 v3 τ) : ∀ (d j k : Nat) (τ : Mem), d + j = 7 → Bg (20 + 60 * j) τ → wL_law_46 S Q E (d + 1) k v2 v3 (nI j) τ := by
  intro d
  induction d with
  | zero =>
    intro j k τ e B
    obtain rfl : j = 7 := by omega
    exact ⟨fun _ => hT k τ B, fun q => absurd (Int32.le_refl _) q⟩
  | succ d ih =>
    intro j k τ e B
    obtain ⟨⟨t, nC, nx, nB, nO, nP, a, ht, I⟩, g, o⟩ := B
    refine ⟨fun q => absurd q (nI_ge (a := j) (b := 7) (by omega) (by decide)), fun _ => seen_J I (fun s1 I1 g1 g2 z1 => ?_)⟩
    have sg1 := sg_same g1 g2 g
    have ou1 := ou_same g1 g2 o
    have nx9 : ∀ (k' : Nat) (v4 : Int32) (u : Mem), v4 = nI j + 1 → Bg (20 + 60 * (j + 1)) u → wL_law_46 S Q E (d + 1) k' v2 v3 v4 u := by
      intro k' v4 u hv Bu
      subst hv
      rw [nI_1]
      exact ih (j + 1) k' u (by omega) Bu
    refine w_acts (i0 := 60 + 4 * j) hS (ix4 60 j) (by omega) I1 sg1 (by omega) (fun r s3 hr I3 p3 sg3 => ?_) (fun s3 v t' mB mO mP a' t1 t2 hv I3 S3 p3 sg3 => ?_)
    · obtain ⟨n1, n2, n3⟩ := ref_n9 hr
      refine w_well I3 h1 h2 (fun s5 u5 => ⟨fun q => absurd q (by decide), fun _ => ⟨fun q => absurd q n1, fun _ => ⟨fun q => absurd q n2, fun _ => ?_⟩⟩⟩)
      refine seen_J (I3.on u5) (fun s16 I16 f1 f2 z16 => w_alike (fun s hs => ?_) ?_)
      · rw [z16, f1 19 k s (by omega), u5.r19, p3.r19, z1]
      · refine ⟨fun _ => ⟨fun _ v4 hv4 => nx9 (k + 2) v4 s16 hv4 ⟨⟨t, nC, nx, nB, nO, nP, a, by omega, I16⟩, sg_same f1 f2 (u5.sg sg3), ou_same f1 f2 (u5.ou (p3.ou ou1))⟩, fun q => absurd n3 q⟩, fun q => absurd q (by decide)⟩
    · obtain ⟨n1, n2, n3⟩ := an_n9 hv
      refine w_well I3 h1 h2 (fun s5 u5 => ⟨fun q => absurd q (by decide), fun _ => ⟨fun q => absurd q n1, fun _ => ⟨fun _ => ⟨fun q => absurd q n3, fun _ => ?_⟩, fun q => absurd n2 q⟩⟩⟩)
      have I5 := I3.on u5
      have sg5 := u5.sg sg3
      have ou5 := u5.ou (p3.ou ou1)
      refine w_in (i := 88 + j) (n := 5) hS (nI_add 88 j) (by omega) rfl (by decide) (by decide) (fun r7 _ => ⟨fun _ v4 hv4 => nx9 (k + 1) v4 s5 hv4 ⟨⟨t', _, _, mB, mO, mP, a', by omega, I5⟩, sg5, ou5⟩, fun _ => ?_⟩)
      obtain ⟨c, hc⟩ : ∃ c : Nat, cN nC = c + 1 := by
        unfold cN
        split
        · exact ⟨7, rfl⟩
        · exact ⟨nC, rfl⟩
      rw [hc] at I5
      have hx8 := I.1.2.1
      have F0 := I.2.1.mono t1
      have G0 := I.2.2.1.mono t1
      have S5 : Same s5 (3 + ((nx + 1) % 8 + 7) % 8) nB nO nP a := by
        rw [show ((nx + 1) % 8 + 7) % 8 = nx by omega]
        exact u5.same (by omega) S3
      refine w_und I5 F0 G0 S5 (fun s11 I11 p11 sg11 => ⟨fun q => absurd q (nI_pos (by have := I5.1.1; omega)), fun _ => ?_⟩)
      refine seen_J I11 (fun s12 I12 f1 f2 z12 => w_alike (fun s hs => ?_) ?_)
      · rw [z12, f1 19 k s (by omega), p11.r19, u5.r19, p3.r19, z1]
      · exact ⟨fun _ v4 hv4 => nx9 (k + 2) v4 s12 hv4 ⟨⟨t', _, _, nB, nO, nP, a, by omega, I12⟩, sg_same f1 f2 (sg11 sg5), ou_same f1 f2 (p11.ou ou5)⟩, fun q => absurd q (by decide)⟩
end TU
