/-! THE LAW'S BEGINNING -/
def Sz (b : Nat) (x : Int32) : Prop := -(1000000 * (b : Int)) ≤ x.toInt ∧ x.toInt ≤ 1000000 * (b : Int)
theorem Sz.mono {b c : Nat} {x : Int32} (h : b ≤ c) (s : Sz b x) : Sz c x := by
  unfold Sz at s ⊢
  omega
theorem Sz.add {b c : Nat} {x y : Int32} (h : b + c ≤ 100) (s : Sz b x) (s2 : Sz c y) : Sz (b + c) (x + y) := by
  unfold Sz at s s2 ⊢
  have e : (x + y).toInt = x.toInt + y.toInt := by
    rw [Int32.toInt_add]
    apply Int.bmod_eq_of_le
    · omega
    · omega
  rw [e]
  omega
theorem Sz.nI {w : Nat} (h : w ≤ 1000000) : Sz 1 (nI w) := by
  unfold Sz
  rw [nI_toInt (by omega)]
  omega
theorem Sz.an {v : Int32} (h : An v) : Sz 1 v := by
  obtain ⟨w, h1, rfl⟩ := h
  exact Sz.nI (by omega)
theorem Sz.ref {r : Int32} (h : Ref r) : Sz 1 r := by
  unfold Sz
  rcases h with rfl | rfl | rfl <;> decide
theorem Sz.z : Sz 0 0 := by
  unfold Sz
  decide
theorem Sz.ge {b : Nat} {x : Int32} (hb : b ≤ 80) (s : Sz b x) : (-90000000) < x := by
  unfold Sz at s
  rw [Int32.lt_iff_toInt_lt]
  have : (-90000000 : Int32).toInt = -90000000 := by decide
  rw [this]
  omega
/-- nothing has been rendered -/
def Ou (σ : Mem) : Prop := Txt σ 1 0 (fun _ => 0)
theorem Ps.ou {σ τ : Mem} (h : Ps σ τ) (g : Ou σ) : Ou τ := Txt.on2 (fun s => h.1 13 1 s (by unfold pst; omega)) (fun s => h.1 16 1 s (by unfold pst; omega)) h.2 (fun _ => rfl) g
/-- a sound mill, not too old -/
def Bg (t : Nat) (σ : Mem) : Prop := (∃ t0 nC nx nB nO nP : Nat, ∃ a : Nat → Int32, t0 ≤ t ∧ J t0 nC nx nB nO nP a σ) ∧ Sg σ ∧ Ou σ
theorem Bg.mono {t t' : Nat} {σ : Mem} (h : t ≤ t') (b : Bg t σ) : Bg t' σ := by
  obtain ⟨⟨t0, nC, nx, nB, nO, nP, a, h0, I⟩, g, o⟩ := b
  exact ⟨⟨t0, nC, nx, nB, nO, nP, a, Nat.le_trans h0 h, I⟩, g, o⟩
theorem bg_step {t : Nat} {σ : Mem} {w : Mem → (Int32 → Mem → Prop) → (String → Mem → Prop) → Prop} {Q : Int32 → Mem → Prop} {E : String → Mem → Prop} (B : Bg t σ) (ht : t < 512)
    (ha : ∀ (t0 nC nx nB nO nP : Nat) (a : Nat → Int32), t0 < 512 → J t0 nC nx nB nO nP a σ → Act w 1 t0 nC nx nB nO nP a σ) (h : ∀ (r : Int32) (τ : Mem), Sz 1 r → Bg (t + 1) τ → Q r τ) : w σ Q E := by
  obtain ⟨⟨t0, nC, nx, nB, nO, nP, a, h0, I⟩, g, o⟩ := B
  refine ha t0 nC nx nB nO nP a (by omega) I Q E (fun r τ h1 h2 h3 h4 => h r τ (Sz.ref h1) ⟨⟨t0, nC, nx, nB, nO, nP, a, by omega, h2⟩, h4 g, h3.ou o⟩) (fun τ v t' nB' nO' nP' a' h1 h2 h3 h4 h5 h6 h7 => h v τ (Sz.an h3) ⟨⟨t', _, _, nB', nO', nP', a', by omega, h4⟩, h7 g, h6.ou o⟩)
section BE
variable {S : Scr} {Q : Mem → Prop} {E : String → Mem → Prop} {X : Int32 → Mem → Prop}
theorem w_bg12 (hS : S.1 ≤ 260) (h : ∀ (v : Int32) (τ : Mem), Sz 8 v → Bg 8 τ → X v τ) : ∀ (d i : Nat) (v : Int32) (τ : Mem), d + i = 8 → Sz i v → Bg i τ → wL_begun_12 S Q E X (d + 1) v (nI i) τ := by
  intro d
  induction d with
  | zero =>
    intro i v τ e s B
    obtain rfl : i = 8 := by omega
    refine w_in (i := 0) (n := 6) hS rfl (by decide) rfl (by decide) (by decide) (fun r hr => ⟨fun _ => h v τ s B, fun q => absurd ?_ q⟩)
    rw [show (3 : Int32) + nI r = nI (3 + r) from nI_add 3 r]
    exact nI_le (by omega) (by decide)
  | succ d ih =>
    intro i v τ e s B
    refine w_in (i := 0) (n := 6) hS rfl (by decide) rfl (by decide) (by decide) (fun r hr => ⟨fun _ => h v τ (s.mono (by omega)) (B.mono (by omega)), fun _ => ?_⟩)
    refine w_in (i := 1 + i) (n := 40) hS (nI_add 1 i) (by omega) rfl (by decide) (by decide) (fun r3 _ => ?_)
    refine w_in (i := 10 + i) (n := 51) hS (nI_add 10 i) (by omega) rfl (by decide) (by decide) (fun r5 _ => ?_)
    refine w_in (i := 20 + i) (n := 4) hS (nI_add 20 i) (by omega) rfl (by decide) (by decide) (fun r7 _ => ?_)
    refine bg_step (w := fun s Q E => wL_buyBale (1 + nI r3) (10 + nI r5) (1 + nI r7) s Q E) B (by omega) (fun t0 nC nx nB nO nP a ht I => l_buyBale _ _ _ I ht) (fun x u sx Bu v2 hv2 v3 hv3 => ?_)
    subst hv2 hv3
    rw [nI_1]
    exact ih (i + 1) _ u (by omega) (Sz.add (by omega) s sx) Bu
theorem w_bg103 (hS : S.1 ≤ 260) (h : ∀ (v : Int32) (τ : Mem), Sz 14 v → Bg 14 τ → X v τ) : ∀ (d i : Nat) (v : Int32) (τ : Mem), d + i = 5 → Sz (9 + i) v → Bg (9 + i) τ → wL_begun_103 S Q E X (d + 1) v (nI i) τ := by
  intro d
  induction d with
  | zero =>
    intro i v τ e s B
    obtain rfl : i = 5 := by omega
    refine w_in (i := 32) (n := 4) hS rfl (by decide) rfl (by decide) (by decide) (fun r hr => ⟨fun _ => h v τ s B, fun q => absurd ?_ q⟩)
    rw [show (2 : Int32) + nI r = nI (2 + r) from nI_add 2 r]
    exact nI_le (by omega) (by decide)
  | succ d ih =>
    intro i v τ e s B
    refine w_in (i := 32) (n := 4) hS rfl (by decide) rfl (by decide) (by decide) (fun r hr => ⟨fun _ => h v τ (s.mono (by omega)) (B.mono (by omega)), fun _ => ?_⟩)
    refine w_in (i := 33 + i) (n := 20) hS (nI_add 33 i) (by omega) rfl (by decide) (by decide) (fun r3 _ => ?_)
    refine w_in (i := 40 + i) (n := 9) hS (nI_add 40 i) (by omega) rfl (by decide) (by decide) (fun r5 _ => ?_)
    refine bg_step (w := fun s Q E => wL_addOrder (1 + nI r3) (1 + nI r5) s Q E) B (by omega) (fun t0 nC nx nB nO nP a ht I => l_addOrder _ _ I ht) (fun x u sx Bu v2 hv2 v3 hv3 => ?_)
    subst hv2 hv3
    rw [nI_1]
    exact ih (i + 1) _ u (by omega) (Sz.add (b := 9 + i) (c := 1) (by omega) s sx) Bu
theorem w_bg183 (hS : S.1 ≤ 260) (h : ∀ (v : Int32) (τ : Mem), Sz 20 v → Bg 20 τ → X v τ) : ∀ (d i : Nat) (v : Int32) (τ : Mem), d + i = 2 → Sz (16 + 2 * i) v → Bg (16 + 2 * i) τ → wL_begun_183 S Q E X (d + 1) v (nI i) τ := by
  intro d
  induction d with
  | zero =>
    intro i v τ e s B
    obtain rfl : i = 2 := by omega
    exact ⟨fun _ => h v τ s B, fun q => absurd (Int32.le_refl _) q⟩
  | succ d ih =>
    intro i v τ e s B
    refine ⟨fun q => absurd q (nI_ge (a := i) (b := 2) (by omega) (by decide)), fun _ => ?_⟩
    refine w_in (i := 48 + i) (n := 30) hS (nI_add 48 i) (by omega) rfl (by decide) (by decide) (fun r3 _ => ?_)
    refine w_in (i := 50 + i) (n := 51) hS (nI_add 50 i) (by omega) rfl (by decide) (by decide) (fun r5 _ => ?_)
    refine w_in (i := 52 + i) (n := 6) hS (nI_add 52 i) (by omega) rfl (by decide) (by decide) (fun r7 _ => ?_)
    refine bg_step (w := fun s Q E => wL_buyBale (1 + nI r3) (10 + nI r5) (1 + nI r7) s Q E) B (by omega) (fun t0 nC nx nB nO nP a ht I => l_buyBale _ _ _ I ht) (fun x u sx Bu => ?_)
    refine w_in (i := 54 + i) (n := 12) hS (nI_add 54 i) (by omega) rfl (by decide) (by decide) (fun r9 _ => ?_)
    refine w_in (i := 56 + i) (n := 9) hS (nI_add 56 i) (by omega) rfl (by decide) (by decide) (fun r11 _ => ?_)
    refine bg_step (w := fun s Q E => wL_addOrder (1 + nI r9) (1 + nI r11) s Q E) Bu (by omega) (fun t0 nC nx nB nO nP a ht I => l_addOrder _ _ I ht) (fun y u2 sy Bu2 v2 hv2 v3 hv3 => ?_)
    subst hv2 hv3
    rw [nI_1]
    exact ih (i + 1) _ u2 (by omega) ((Sz.add (b := 16 + 2 * i) (c := 2) (by omega) s (Sz.add (b := 1) (c := 1) (by omega) sx sy)).mono (by omega)) (Bu2.mono (by omega))
theorem w_begun {σ : Mem} (hS : S.1 ≤ 260) (B : Bg 0 σ) (h : ∀ τ : Mem, Bg 20 τ → Q τ) : wL_begun S σ Q E := by
  refine ⟨9, by decide, w_bg12 hS (fun v1 τ1 s1 B1 => ?_) 8 0 0 σ rfl Sz.z B⟩
  refine w_in (i := 30) (n := 30) hS rfl (by decide) rfl (by decide) (by decide) (fun r3 _ => ?_)
  refine w_in (i := 31) (n := 20) hS rfl (by decide) rfl (by decide) (by decide) (fun r5 _ => ?_)
  refine bg_step (w := fun s Q E => wL_blend (1 + nI r3) (10 + nI r5) s Q E) B1 (by decide) (fun t0 nC nx nB nO nP a ht I => l_blend _ _ I ht) (fun x u sx Bu v2 hv2 => ?_)
  subst hv2
  refine ⟨6, by decide, w_bg103 hS (fun v3 τ3 s3 B3 => ?_) 5 0 _ u rfl (Sz.add (b := 8) (c := 1) (by decide) s1 sx) Bu⟩
  refine w_in (i := 46) (n := 3) hS rfl (by decide) rfl (by decide) (by decide) (fun r7 _ => ?_)
  refine bg_step (w := fun s Q E => wL_spin (nI r7) s Q E) B3 (by decide) (fun t0 nC nx nB nO nP a ht I => l_spin _ I ht) (fun y u2 sy Bu2 => ?_)
  refine w_in (i := 47) (n := 3) hS rfl (by decide) rfl (by decide) (by decide) (fun r9 _ => ?_)
  refine bg_step (w := fun s Q E => wL_setMachines (1 + nI r9) s Q E) Bu2 (by decide) (fun t0 nC nx nB nO nP a ht I => l_setMachines _ I ht) (fun z u3 sz Bu3 v2 hv2 => ?_)
  subst hv2
  refine ⟨3, by decide, w_bg183 hS (fun v4 τ4 s4 B4 => ⟨fun _ => h τ4 B4, fun q => absurd (Int32.le_of_lt (Sz.ge (by decide) s4)) q⟩) 2 0 _ u3 rfl (Sz.add (b := 14) (c := 2) (by decide) s3 (Sz.add (b := 1) (c := 1) (by decide) sy sz)) Bu3⟩
end BE
