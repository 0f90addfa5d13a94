/-! THE LAW'S WORLD: WHAT HOLDS BETWEEN ITS CALLS -/
def J (t nC nx nB nO nP : Nat) (a : Nat → Int32) (σ : Mem) : Prop := (nC ≤ 8 ∧ nx < 8 ∧ t ≤ 512) ∧ Fits t nB nO nP a ∧ Srt t nB nO a ∧ Same σ 0 nB nO nP a ∧ (rd σ 5 0 1 = nI nx ∧ rd σ 5 0 2 = nI nC) ∧ Zer σ
/-- the buffer of signs is empty -/
def Sg (σ : Mem) : Prop := Txt σ 0 0 (fun _ => 0)
/-- what no call of the law writes, but save, seen and renderShelf -/
def pst (f k s : Nat) : Prop := f = 19 ∨ SIn 2 f k ∨ (f = 14 ∧ s = 3) ∨ ((f = 13 ∨ f = 16) ∧ k = 1)
def Ps (σ τ : Mem) : Prop := (∀ f k s : Nat, pst f k s → rd τ f k s = rd σ f k s) ∧ τ.2.2.1 1 = σ.2.2.1 1
theorem Ps.rf (σ : Mem) : Ps σ σ := ⟨fun _ _ _ _ => rfl, rfl⟩
theorem Ps.tr {σ τ u : Mem} (h1 : Ps σ τ) (h2 : Ps τ u) : Ps σ u := ⟨fun f k s h => (h2.1 f k s h).trans (h1.1 f k s h), h2.2.trans h1.2⟩
theorem FrS.ps {σ τ : Mem} (h : FrS σ τ) : Ps σ τ := ⟨fun f k s hp => h.1 f k s (by unfold pst SIn at hp; unfold scc; omega), by rw [h.2]⟩
theorem FrS.sg {σ τ : Mem} (h : FrS σ τ) (g : Sg σ) : Sg τ := Txt.on (fun s => h.1 13 0 s (by unfold scc; omega)) (fun s => h.1 16 0 s (by unfold scc; omega)) (by rw [h.2]) (fun _ => rfl) g
theorem FrS.zer {σ τ : Mem} (h : FrS σ τ) (Z : Zer σ) : Zer τ := ⟨fun k hk => by rw [h.1 10 k 0 (by unfold scc; omega)]; exact Z.1 k hk, fun m hm => by rw [h.1 10 12 m (by unfold scc; omega)]; exact Z.2 m hm⟩
theorem J.on {t nC nx nB nO nP : Nat} {a : Nat → Int32} {σ τ : Mem} (h : FrS σ τ) (I : J t nC nx nB nO nP a σ) : J t nC nx nB nO nP a τ := by
  obtain ⟨h1, F, G, S, ⟨h4, h5⟩, Z⟩ := I
  exact ⟨h1, F, G, h.same (by decide) S, ⟨(h.1 5 0 1 (by unfold scc; omega)).trans h4, (h.1 5 0 2 (by unfold scc; omega)).trans h5⟩, h.zer Z⟩
theorem chg {t nC nx nB nO nP : Nat} {a : Nat → Int32} {σ : Mem} (I : J t nC nx nB nO nP a σ) (ht : t < 512) {c : Nat} {x1 x2 x3 : Int32} {L : List Nat} (hL : ∀ r : Nat, r ∈ L → 1 ≤ r ∧ r ≤ 5) (hch : Ch c x1 x2 x3 L t nB nO nP a) {Q : Int32 → Mem → Prop} {E : String → Mem → Prop}
    (hR : ∀ (r : Nat) (τ : Mem), r ∈ L → FrS σ τ → E (exN r) τ)
    (hD : ∀ (τ : Mem) (v : Int32) (nB' nO' nP' : Nat) (a' : Nat → Int32), Ans t v → J (t + 1) (cN nC) ((nx + 1) % 8) nB' nO' nP' a' τ → Same τ (3 + nx) nB nO nP a → Ps σ τ → (Sg σ → Sg τ) → Q v τ) : wX12_change c x1 x2 x3 σ Q E := by
  obtain ⟨⟨h1, hx, h3⟩, F, G, S, ⟨h4, h5⟩, Z⟩ := I
  unfold wX12_change
  rcases hch with ⟨r, hm, hC⟩ | ⟨nB', nO', nP', a', v, ⟨F', G', A'⟩, hC, hE⟩
  · exact hC σ _ _ S Z (fun τ u => w_throw (hL r hm) (hR r τ hm u))
  · refine hC σ _ _ S Z (fun τ u => w_throw0 ?_)
    have S1 : Same τ 0 nB nO nP a := u.same (by decide) S
    have Zt := u.zer Z
    refine w_record (nx := nx) (c := nC) ((u.1 5 0 1 (by unfold scc; omega)).trans h4) hx ((u.1 5 0 2 (by unfold scc; omega)).trans h5) h1 (by decide) F.1.1 F.1.2.1 F.1.2.2.1 S1 (fun y y1 y2 y3 y4 y5 => ?_)
    have Zy : Zer y := ⟨fun k hk => by rw [y1 10 k 0 (by unfold SIn; omega) (by omega)]; exact Zt.1 k hk, fun m hm => by rw [y1 10 12 m (by unfold SIn; omega) (by omega)]; exact Zt.2 m hm⟩
    refine hE y _ _ (S1.on fun f k' s hh => y1 f k' s (by unfold SIn at hh; unfold SIn; omega) (by unfold SIn at hh; omega)) Zy (fun z z1 z2 => ?_)
    have hc8 : cN nC ≤ 8 := by
      unfold cN
      split <;> omega
    have gz : ∀ f k s : Nat, ¬ SIn 0 f k → ¬ SIn (3 + nx) f k → ¬ scc f k s → ¬ (f = 5 ∧ k = 0 ∧ (s = 1 ∨ s = 2)) → rd z f k s = rd σ f k s := by
      intro f k s n1 n2 n3 n4
      rw [z1.1 f k s n1 n3, y1 f k s n2 n4, u.1 f k s n3]
    refine hD z v nB' nO' nP' a' A' ⟨⟨hc8, Nat.mod_lt _ (by decide), by omega⟩, F', G', z2, ⟨?_, ?_⟩, ?_, ?_⟩ ?_ ⟨fun f k s hp => ?_, ?_⟩ (fun g => ?_)
    · rw [z1.1 5 0 1 (by unfold SIn; omega) (by unfold scc; omega)]
      exact y3
    · rw [z1.1 5 0 2 (by unfold SIn; omega) (by unfold scc; omega)]
      exact y4
    · intro k hk
      rw [z1.1 10 k 0 (by unfold SIn; omega) (by unfold scc; omega)]
      exact Zy.1 k hk
    · intro m hm
      rw [z1.1 10 12 m (by unfold SIn; omega) (by unfold scc; omega)]
      exact Zy.2 m hm
    · exact y5.on fun f k' s hh => z1.1 f k' s (by unfold SIn at hh; unfold SIn; omega) (by unfold SIn at hh; unfold scc; omega)
    · unfold pst SIn at hp
      exact gz f k s (by unfold SIn; omega) (by unfold SIn; omega) (by unfold scc; omega) (by omega)
    · rw [z1.2, y2, u.2]
    · exact Txt.on (fun s => gz 13 0 s (by unfold SIn; omega) (by unfold SIn; omega) (by unfold scc; omega) (by omega)) (fun s => gz 16 0 s (by unfold SIn; omega) (by unfold SIn; omega) (by unfold scc; omega) (by omega)) (by rw [z1.2, y2, u.2]) (fun _ => rfl) g
/-- undo: the row before comes back -/
theorem w_und {t c nx nB nO nP nB0 nO0 nP0 : Nat} {a a0 : Nat → Int32} {σ : Mem} (I : J t (c + 1) nx nB nO nP a σ) (F0 : Fits t nB0 nO0 nP0 a0) (G0 : Srt t nB0 nO0 a0) (S0 : Same σ (3 + (nx + 7) % 8) nB0 nO0 nP0 a0) {Q : Int32 → Mem → Prop} {E : String → Mem → Prop}
    (h : ∀ τ : Mem, J t c ((nx + 7) % 8) nB0 nO0 nP0 a0 τ → Ps σ τ → (Sg σ → Sg τ) → Q (nI c) τ) : wL_undo σ Q E := by
  obtain ⟨⟨h1, hx, h3⟩, F, G, S, ⟨h4, h5⟩, Z⟩ := I
  unfold wL_undo wX12_undo
  refine ⟨fun _ => ?_, fun q => absurd (h5.symm.trans q) (nI_ne0 (by omega) (by omega))⟩
  refine w_takeBack h4 hx h5 (by omega) F0.1.1 F0.1.2.1 F0.1.2.2.1 S0 (fun τ u1 u2 k1 k2 u3 => ?_)
  show Q (rd τ 5 0 2) τ
  rw [k2]
  refine h τ ⟨⟨by omega, Nat.mod_lt _ (by decide), h3⟩, F0, G0, u3, ⟨k1, k2⟩, fun k hk => ?_, fun m hm => ?_⟩ ⟨fun f k s hp => ?_, by rw [u2]⟩ (fun g => ?_)
  · rw [u1 10 k 0 (by unfold SIn; omega) (by omega)]
    exact Z.1 k hk
  · rw [u1 10 12 m (by unfold SIn; omega) (by omega)]
    exact Z.2 m hm
  · unfold pst SIn at hp
    exact u1 f k s (by unfold SIn; omega) (by omega)
  · exact Txt.on (fun s => u1 13 0 s (by unfold SIn; omega) (by omega)) (fun s => u1 16 0 s (by unfold SIn; omega) (by omega)) (by rw [u2]) (fun _ => rfl) g
/-- undo where nothing is to be undone -/
theorem w_und0 {t nx nB nO nP : Nat} {a : Nat → Int32} {σ : Mem} (I : J t 0 nx nB nO nP a σ) {Q : Int32 → Mem → Prop} {E : String → Mem → Prop} (h : Q (-900001) σ) : wL_undo σ Q E :=
  ⟨fun q => absurd (show rd σ 5 0 2 = 0 from I.2.2.2.2.1.2) q, fun _ => ⟨rfl, h⟩⟩
/-- save -/
theorem w_sav {t nC nx nB nO nP : Nat} {a : Nat → Int32} {σ : Mem} (I : J t nC nx nB nO nP a σ) {Q : Int32 → Mem → Prop} {E : String → Mem → Prop}
    (h : ∀ τ : Mem, J t nC nx nB nO nP a τ → Same τ 2 nB nO nP a → rd τ 14 0 3 = 1 → (∀ k s : Nat, rd τ 19 k s = rd σ 19 k s) → (∀ k s : Nat, rd τ 13 k s = rd σ 13 k s ∧ rd τ 16 k s = rd σ 16 k s) → τ.2 = σ.2 → Q (nI nP) τ) : wX12_save σ Q E := by
  obtain ⟨h1, F, G, S, ⟨h4, h5⟩, Z⟩ := I
  unfold wX12_save
  refine w_stk (k := 2) (k2 := 0) (by decide) (by decide) (by decide) F.1.1 F.1.2.1 F.1.2.2.1 S (fun τ u1 u2 u3 => ?_)
  intro s3 hs3
  show Q (rd s3 0 9 1) s3
  have g : ∀ f k s : Nat, ¬ SIn 2 f k → ¬ (f = 14 ∧ k = 0 ∧ s = 3) → rd s3 f k s = rd σ f k s := by
    intro f k s n1 n2
    rw [hs3, rd_wr, if_neg (by omega)]
    exact u1 f k s n1
  have S' : Same s3 0 nB nO nP a := S.on fun f k' s hh => g f k' s (by unfold SIn at hh; unfold SIn; omega) (by unfold SIn at hh; omega)
  rw [show rd s3 0 9 1 = nI nP from S'.2.2.2.1]
  refine h s3 ⟨h1, F, G, S', ⟨?_, ?_⟩, fun k hk => ?_, fun m hm => ?_⟩ ?_ ?_ (fun k s => ?_) (fun k s => ⟨?_, ?_⟩) ?_
  · exact (g 5 0 1 (by unfold SIn; omega) (by omega)).trans h4
  · exact (g 5 0 2 (by unfold SIn; omega) (by omega)).trans h5
  · exact (g 10 k 0 (by unfold SIn; omega) (by omega)).trans (Z.1 k hk)
  · exact (g 10 12 m (by unfold SIn; omega) (by omega)).trans (Z.2 m hm)
  · exact u3.on fun f k' s hh => by rw [hs3, rd_wr, if_neg (by unfold SIn at hh; omega)]
  · rw [hs3, rd_wr, if_pos ⟨rfl, rfl, rfl⟩]
  · exact g 19 k s (by unfold SIn; omega) (by omega)
  · exact g 13 k s (by unfold SIn; omega) (by omega)
  · exact g 16 k s (by unfold SIn; omega) (by omega)
  · rw [hs3, wr_2, u2]
/-- restore -/
theorem w_res {t nC nx nB nO nP nB0 nO0 nP0 : Nat} {a a0 : Nat → Int32} {σ : Mem} (I : J t nC nx nB nO nP a σ) (F0 : Fits t nB0 nO0 nP0 a0) (G0 : Srt t nB0 nO0 a0) (S0 : Same σ 2 nB0 nO0 nP0 a0) (hs : rd σ 14 0 3 = 1) {Q : Int32 → Mem → Prop} {E : String → Mem → Prop}
    (h : ∀ τ : Mem, J t 0 nx nB0 nO0 nP0 a0 τ → (∀ k s : Nat, rd τ 19 k s = rd σ 19 k s) → Q (nI nP0) τ) : wL_restore σ Q E := by
  obtain ⟨h1, F, G, S, ⟨h4, h5⟩, Z⟩ := I
  unfold wL_restore wX12_restore
  refine ⟨fun _ => ?_, fun q => absurd (hs.symm.trans q) (by decide)⟩
  refine w_stk (k := 0) (k2 := 2) (by decide) (by decide) (by decide) F0.1.1 F0.1.2.1 F0.1.2.2.1 S0 (fun τ u1 u2 u3 => ?_)
  intro s1 hs1
  show Q (rd s1 0 9 1) s1
  have g : ∀ f k s : Nat, ¬ SIn 0 f k → ¬ (f = 5 ∧ k = 0 ∧ s = 2) → rd s1 f k s = rd σ f k s := by
    intro f k s n1 n2
    rw [hs1, rd_wr, if_neg (by omega)]
    exact u1 f k s n1
  have S' : Same s1 0 nB0 nO0 nP0 a0 := u3.on fun f k' s hh => by rw [hs1, rd_wr, if_neg (by unfold SIn at hh; omega)]
  rw [show rd s1 0 9 1 = nI nP0 from S'.2.2.2.1]
  refine h s1 ⟨⟨by omega, h1.2.1, h1.2.2⟩, F0, G0, S', ⟨?_, ?_⟩, fun k hk => ?_, fun m hm => ?_⟩ (fun k s => ?_)
  · exact (g 5 0 1 (by unfold SIn; omega) (by omega)).trans h4
  · rw [hs1, rd_wr, if_pos ⟨rfl, rfl, rfl⟩]
    rfl
  · exact (g 10 k 0 (by unfold SIn; omega) (by omega)).trans (Z.1 k hk)
  · exact (g 10 12 m (by unfold SIn; omega) (by omega)).trans (Z.2 m hm)
  · exact g 19 k s (by unfold SIn; omega) (by omega)
