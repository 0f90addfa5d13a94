/-! AN ACT OF THE LAW, WHOLE -/
section AD
variable {t nC nx nB nO nP : Nat} {a : Nat → Int32} {σ : Mem} {Q : Int32 → Mem → Prop} {E : String → Mem → Prop}
theorem fin_does {u : Mem} {n : Nat} (I : J t nC nx nB nO nP a σ) (g : Sg σ) (ht : t + 60 ≤ 512) (K : Kj σ u) (P : Pr u 2 n) (hn : n ≤ 60)
    (hR : ∀ (r : Int32) (τ : Mem), Ref r → J t nC nx nB nO nP a τ → Ps σ τ → Sg τ → Q r τ)
    (hD : ∀ (τ : Mem) (v : Int32) (t' nB' nO' nP' : Nat) (a' : Nat → Int32), t ≤ t' → t' ≤ t + 60 → An v → J t' (cN nC) ((nx + 1) % 8) nB' nO' nP' a' τ → Same τ (3 + nx) nB nO nP a → Ps σ τ → Sg τ → Q v τ) : ∃ n9 : Nat, TsOk u 2 n9 ∧ n9 ≤ 60 ∧ ∀ s9 : Mem, NewT u s9 2 n9 → wL_does 0 s9 (fun (r : Int32) (s : Mem) => Q r s) E := by
  refine ⟨n, P.ts, hn, fun s9 hT => ?_⟩
  have K9 := K.tr hT.kj
  exact l_does (K9.j I) (K9.sg g) (hT.lt P) hn (by omega) (fun r τ h1 h2 h3 h4 => hR r τ h1 h2 (K9.ps.tr h3) h4) (fun τ v t' nB' nO' nP' a' h1 h2 h3 h4 h5 h6 h7 => hD τ v t' nB' nO' nP' a' h1 (by omega) h3 h4 h5 (K9.ps.tr h6) h7)
theorem w_acts {i0 : Nat} {S : Scr} {x : Int32} (hS : S.1 ≤ 260) (hx : x = nI i0) (hi : i0 < 1000) (I : J t nC nx nB nO nP a σ) (g : Sg σ) (ht : t + 60 ≤ 512)
    (hR : ∀ (r : Int32) (τ : Mem), Ref r → J t nC nx nB nO nP a τ → Ps σ τ → Sg τ → Q r τ)
    (hD : ∀ (τ : Mem) (v : Int32) (t' nB' nO' nP' : Nat) (a' : Nat → Int32), t ≤ t' → t' ≤ t + 60 → An v → J t' (cN nC) ((nx + 1) % 8) nB' nO' nP' a' τ → Same τ (3 + nx) nB nO nP a → Ps σ τ → Sg τ → Q v τ) : wL_acts S x σ Q E := by
  subst hx
  unfold wL_acts
  refine w_in (i := i0 + 1) (n := 10) hS (nI_add i0 1) (by omega) rfl (by decide) (by decide) (fun b1 hb1 => ?_)
  refine w_in (i := i0 + 2) (n := 62) hS (nI_add i0 2) (by omega) rfl (by decide) (by decide) (fun b2 hb2 => ?_)
  refine w_in (i := i0 + 3) (n := 100) hS (nI_add i0 3) (by omega) rfl (by decide) (by decide) (fun b3 hb3 => ?_)
  refine w_in (i := i0) (n := 26) hS rfl (by omega) rfl (by decide) (by decide) (fun b4 _ => ?_)
  have ht1 : t < 512 := by omega
  have hR' : ∀ (r : Int32) (τ : Mem), Ref r → J t nC nx nB nO nP a τ → Ps σ τ → (Sg σ → Sg τ) → Q r τ := fun r τ h1 h2 h3 h4 => hR r τ h1 h2 h3 (h4 g)
  have hD' : ∀ (τ : Mem) (v : Int32) (t' nB' nO' nP' : Nat) (a' : Nat → Int32), t ≤ t' → t' ≤ t + 1 → An v → J t' (cN nC) ((nx + 1) % 8) nB' nO' nP' a' τ → Same τ (3 + nx) nB nO nP a → Ps σ τ → (Sg σ → Sg τ) → Q v τ := fun τ v t' nB' nO' nP' a' h1 h2 h3 h4 h5 h6 h7 => hD τ v t' nB' nO' nP' a' h1 (by omega) h3 h4 h5 h6 (h7 g)
  have buy : ∀ y1 y2 y3 : Int32, wL_buyBale y1 y2 y3 σ Q E := fun y1 y2 y3 => l_buyBale y1 y2 y3 I ht1 Q E hR' hD'
  have ble : ∀ y1 y2 : Int32, wL_blend y1 y2 σ Q E := fun y1 y2 => l_blend y1 y2 I ht1 Q E hR' hD'
  have ord : ∀ y1 y2 : Int32, wL_addOrder y1 y2 σ Q E := fun y1 y2 => l_addOrder y1 y2 I ht1 Q E hR' hD'
  have can : wL_order (nI b1) σ (fun r s => wL_cancelOrder r s Q E) E := w_ordr I (by omega) (fun i _ => l_cancelOrder (nI i) I ht1 Q E hR' hD')
  have spi : wL_order (nI b1) σ (fun r s => wL_spin r s Q E) E := w_ordr I (by omega) (fun i _ => l_spin (nI i) I ht1 Q E hR' hD')
  have mac : ∀ y1 : Int32, wL_setMachines y1 σ Q E := fun y1 => l_setMachines y1 I ht1 Q E hR' hD'
  have spl : ∀ y1 : Int32, wL_splice y1 σ Q E := fun y1 => l_splice y1 I ht1 Q E hR' hD'
  have joi : wL_spliceAll σ Q E := l_spliceAll I ht1 Q E hR' hD'
  have sel : ∀ y1 : Int32, wL_sell y1 σ Q E := fun y1 => l_sell y1 I ht1 Q E hR' hD'
  refine ⟨fun _ => ⟨fun _ => buy _ _ _, fun _ => buy _ _ _⟩, fun _ => ⟨fun _ => buy _ _ _, fun _ => buy _ _ _⟩, fun _ => ⟨fun _ => buy _ _ _, fun _ => buy _ _ _⟩, fun _ => ⟨fun _ => buy _ _ _, fun _ => buy _ _ _⟩,
    fun _ => ⟨fun _ => ⟨fun _ => ble _ _, fun _ => ble _ _⟩, fun _ => ⟨fun _ => ble _ _, fun _ => ble _ _⟩⟩, fun _ => ⟨fun _ => ⟨fun _ => ble _ _, fun _ => ble _ _⟩, fun _ => ⟨fun _ => ble _ _, fun _ => ble _ _⟩⟩, fun _ => ⟨fun _ => ⟨fun _ => ble _ _, fun _ => ble _ _⟩, fun _ => ⟨fun _ => ble _ _, fun _ => ble _ _⟩⟩,
    fun _ => ord _ _, fun _ => ord _ _, fun _ => ord _ _, fun _ => can, fun _ => mac _, fun _ => spi, fun _ => spi, fun _ => spi, fun _ => spi, fun _ => spl _, fun _ => spl _, fun _ => spl _, fun _ => joi, fun _ => sel _, fun _ => sel _, fun _ => sel _, fun _ => ?_⟩
  have d4 := dN_pos (b1 % 4)
  have d1 := dN_pos b1
  have d1' := dN_pos (1 + b1)
  have d50 := dN_pos (1 + b2 % 50)
  refine ⟨fun _ => ⟨fun _ => ⟨fun _ s91 h91 => ?_, fun _ s102 h102 => ?_⟩, fun _ s113 h113 => ?_⟩, fun _ s128 h128 => ?_⟩
  · refine w_appT (e := 16) (by decide) h91.pr (by decide) (fun τ1 k1 P1 => ?_)
    refine w_appD (v := b1 % 4) (pk_rem (d := 4) (by omega) (by decide) (by decide)) (by omega) P1 (by have : stLen.getD 16 0 = 9 := rfl; omega) (fun τ2 k2 P2 => ?_)
    refine w_appT (e := 17) (by decide) P2 (by have : stLen.getD 16 0 = 9 := rfl; have : stLen.getD 17 0 = 5 := rfl; omega) (fun τ3 k3 P3 => ?_)
    exact fin_does I g ht (h91.kj.tr (k1.kj.tr (k2.kj.tr k3.kj))) P3 (by have : stLen.getD 16 0 = 9 := rfl; have : stLen.getD 17 0 = 5 := rfl; omega) hR hD
  · refine w_appT (e := 14) (by decide) h102.pr (by decide) (fun τ1 k1 P1 => ?_)
    refine w_appD (v := b1) rfl (by omega) P1 (by have : stLen.getD 14 0 = 7 := rfl; omega) (fun τ2 k2 P2 => ?_)
    refine w_appT (e := 15) (by decide) P2 (by have : stLen.getD 14 0 = 7 := rfl; have : stLen.getD 15 0 = 7 := rfl; omega) (fun τ3 k3 P3 => ?_)
    exact fin_does I g ht (h102.kj.tr (k1.kj.tr (k2.kj.tr k3.kj))) P3 (by have : stLen.getD 14 0 = 7 := rfl; have : stLen.getD 15 0 = 7 := rfl; omega) hR hD
  · refine w_appT (e := 12) (by decide) h113.pr (by decide) (fun τ1 k1 P1 => ?_)
    refine w_appD (v := 1 + b1) (nI_add 1 b1) (by omega) P1 (by have : stLen.getD 12 0 = 6 := rfl; omega) (fun τ2 k2 P2 => ?_)
    refine w_appT (e := 13) (by decide) P2 (by have : stLen.getD 12 0 = 6 := rfl; have : stLen.getD 13 0 = 8 := rfl; omega) (fun τ3 k3 P3 => ?_)
    have K3 := h113.kj.tr (k1.kj.tr (k2.kj.tr k3.kj))
    refine w_ordr (K3.j I) (by omega) (fun i hi9 => ?_)
    have di := dN_pos i
    refine w_appD (v := i) rfl (by omega) P3 (by have : stLen.getD 12 0 = 6 := rfl; have : stLen.getD 13 0 = 8 := rfl; omega) (fun τ4 k4 P4 => ?_)
    exact fin_does I g ht (K3.tr k4.kj) P4 (by have : stLen.getD 12 0 = 6 := rfl; have : stLen.getD 13 0 = 8 := rfl; omega) hR hD
  · refine w_appT (e := 9) (by decide) h128.pr (by decide) (fun τ1 k1 P1 => ?_)
    refine w_appD (v := 1 + b2 % 50) (by rw [show (50 : Int32) = nI 50 from rfl, pk_rem (by omega) (by decide) (by decide)]; exact nI_add 1 (b2 % 50)) (by omega) P1 (by have : stLen.getD 9 0 = 5 := rfl; omega) (fun τ2 k2 P2 => ?_)
    refine w_appT (e := 10) (by decide) P2 (by have : stLen.getD 9 0 = 5 := rfl; have : stLen.getD 10 0 = 12 := rfl; omega) (fun τ3 k3 P3 => ?_)
    refine w_appD (v := 1 + b1) (nI_add 1 b1) (by omega) P3 (by have : stLen.getD 9 0 = 5 := rfl; have : stLen.getD 10 0 = 12 := rfl; omega) (fun τ4 k4 P4 => ?_)
    refine w_appT (e := 11) (by decide) P4 (by have : stLen.getD 9 0 = 5 := rfl; have : stLen.getD 10 0 = 12 := rfl; have : stLen.getD 11 0 = 3 := rfl; omega) (fun τ5 k5 P5 => ?_)
    exact fin_does I g ht (h128.kj.tr (k1.kj.tr (k2.kj.tr (k3.kj.tr (k4.kj.tr k5.kj))))) P5 (by have : stLen.getD 9 0 = 5 := rfl; have : stLen.getD 10 0 = 12 := rfl; have : stLen.getD 11 0 = 3 := rfl; omega) hR hD
end AD
