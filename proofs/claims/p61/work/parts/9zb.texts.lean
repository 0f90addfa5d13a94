/-! TEXTS PUT TOGETHER -/
/-- builder b holds n signs that can be typed -/
def Pr (σ : Mem) (b n : Nat) : Prop := WB σ b n ∧ ∀ i : Nat, i < n → ∃ c : Nat, 32 ≤ c ∧ c ≤ 126 ∧ rd σ 16 b i = nI c
theorem w_ens12 {b n m : Nat} {x : Int32} {σ : Mem} {Q : Mem → Prop} {E : String → Mem → Prop} (W : WB σ b n) (hx : x = nI m) (h1 : n ≤ m) (h2 : m ≤ n + 12) (h3 : m ≤ 90) (h : ∀ τ : Mem, FX b σ τ → WB τ b n → m ≤ τ.2.2.1 b → (∀ i : Nat, i < n → rd τ 16 b i = rd σ 16 b i) → Q τ) : wJ5_ensureCapacityInternal_d00df b x σ Q E := by
  obtain ⟨w1, w2, w3, w4, w5⟩ := W
  refine ⟨w1, by omega, w5, m, hx, by omega, fun c => h σ (FX.rf b σ) ⟨w1, w2, w3, w4, w5⟩ c (fun _ _ => rfl), fun c a => ?_⟩
  have ec : capN (σ.2.2.1 b) m = 2 * σ.2.2.1 b + 2 := by
    unfold capN
    rw [if_pos (by omega)]
    omega
  have e1 : (grow σ b a (capN (σ.2.2.1 b) m)).2.2.1 b = 2 * σ.2.2.1 b + 2 := (if_pos rfl).trans ec
  refine h _ ⟨fun f k s q => ?_, fun k hk => if_neg hk, rfl⟩ ⟨?_, ?_, ?_, ?_, fun i hi => ?_⟩ ?_ (fun i hi => ?_)
  · rw [rd_grow, if_neg (by omega)]
  · rw [rd_grow, if_neg (by omega)]; exact w1
  · rw [rd_grow, if_neg (by omega)]; exact w2
  · rw [e1]; omega
  · rw [e1]; omega
  · rw [rd_grow, if_pos ⟨rfl, rfl⟩]
    by_cases c2 : i < σ.2.2.1 b
    · rw [if_pos c2]; exact w5 i c2
    · rw [if_neg c2]; decide
  · rw [e1]; omega
  · rw [rd_grow, if_pos ⟨rfl, rfl⟩, if_pos (by omega)]
/-- the texts of the law -/
theorem tx_ok : ∀ e : Nat, e < 18 → (nI (stLen.getD e 0)) >>> ((0 : Int32) &&& 31) = nI (stLen.getD e 0) ∧ stLen.getD e 0 ≤ 12 ∧ ∀ q : Nat, q < stLen.getD e 0 → (32 ≤ ((stByt.getD e []).getD q 0).toNatClampNeg ∧ ((stByt.getD e []).getD q 0).toNatClampNeg ≤ 126 ∧ (stByt.getD e []).getD q 0 = nI ((stByt.getD e []).getD q 0).toNatClampNeg) ∧ fits .byte (.int ((stByt.getD e []).getD q 0)) = true := by decide +kernel
theorem w_appT {b n e : Nat} {σ : Mem} {Q : Mem → Prop} {E : String → Mem → Prop} (he : e < 18) (P : Pr σ b n) (hn : n + stLen.getD e 0 ≤ 60) (h : ∀ τ : Mem, FX b σ τ → Pr τ b (n + stLen.getD e 0) → Q τ) : wJ4_append_15ec4 b e σ Q E := by
  obtain ⟨W, PP⟩ := P
  obtain ⟨e3, hL, hq⟩ := tx_ok e he
  obtain ⟨L, hLe⟩ : ∃ L : Nat, L = stLen.getD e 0 := ⟨_, rfl⟩
  unfold wJ4_append_15ec4 wJ5_append_cf1ce
  refine ⟨rfl, ⟨rfl, ?_⟩⟩
  rw [e3]
  rw [← hLe] at hL hq hn h ⊢
  refine w_ens12 W (m := n + L) (by rw [W.2.1, nI_add]) (by omega) (by omega) (by omega) (fun τ t1 t2 t3 t4 => ?_)
  have hcap : τ.2.2.1 b ≤ 142 := by have := t2.2.2.2.1; omega
  refine ⟨rfl, ⟨fun _ => ⟨rfl, ⟨rfl, ⟨fun q => absurd t2.1.symm q, fun _ => ?_⟩⟩⟩, fun q => absurd t2.1 q⟩⟩
  have ea : (rd τ 13 b 3) <<< ((rd τ 13 b 1) &&& 31) = nI n := by
    rw [t2.2.1, t2.1, show ((0 : Int32) &&& 31) = 0 from by decide]
    exact Int32.shiftLeft_zero
  rw [ea, ← hLe, nI_clamp (show L < 2 ^ 31 by omega), nI_clamp (by omega)]
  refine ⟨⟨nI_pos (by omega), nI_pos (by omega), Nat.le_refl _, by omega⟩, fun s3 h3 s7 h7 => ?_⟩
  have r16 : ∀ i : Nat, rd s3 16 b i = va_cpy (fun q => (stByt.getD e []).getD q 0) (rd τ 16 b) 0 n L i := fun i => by
    rw [h3]
    exact if_pos ⟨rfl, rfl⟩
  have rout : ∀ f k s : Nat, ¬ (f = 16 ∧ k = b) → rd s3 f k s = rd τ f k s := fun f k s q => by
    rw [h3]
    exact if_neg q
  have c3 : s3.2 = τ.2 := by rw [h3]; rfl
  have W3 : WB s3 b n := by
    refine ⟨(rout 13 b 1 (by omega)).trans t2.1, (rout 13 b 3 (by omega)).trans t2.2.1, by rw [c3]; exact t2.2.2.1, by rw [c3]; exact t2.2.2.2.1, fun i hi => ?_⟩
    rw [c3] at hi
    rw [r16]
    by_cases c : n ≤ i ∧ i < n + L
    · rw [pk_cpy_in c.1 c.2]
      exact (hq _ (by omega)).2
    · rw [pk_cpy_out (by omega)]
      exact t2.2.2.2.2 i hi
  rw [W3.2.1, nI_add] at h7
  have Lw := w_len13 (b := b) (m := n + L) (v := nI (n + L)) rfl (by rw [c3]; exact t3) W3
  rw [← h7] at Lw
  have F3 : FX b τ s3 := ⟨fun f k s q => rout f k s (by omega), fun k _ => by rw [c3], by rw [c3]⟩
  have r7 : ∀ i : Nat, rd s7 16 b i = rd s3 16 b i := fun i => by rw [h7, rd_wr, if_neg (by omega)]
  refine h s7 (t1.tr (F3.tr Lw.1)) ⟨Lw.2, fun i hi => ?_⟩
  by_cases c : i < n
  · obtain ⟨y, y1, y2, y3⟩ := PP i c
    refine ⟨y, y1, y2, ?_⟩
    rw [r7, r16, pk_cpy_out (by omega), t4 i c]
    exact y3
  · have g := (hq (i - n) (by omega)).1
    refine ⟨_, g.1, g.2.1, ?_⟩
    rw [r7, r16, pk_cpy_in (by omega) (by omega), ← g.2.2]
    congr 1
    omega
theorem dc_47 (v d i : Nat) : 48 ≤ dc v d i ∧ dc v d i ≤ 57 := by
  unfold dc
  omega
theorem w_appD {b n v : Nat} {x : Int32} {σ : Mem} {Q : Mem → Prop} {E : String → Mem → Prop} (hx : x = nI v) (hv : v < 100000) (P : Pr σ b n) (hn : n + dN v ≤ 60) (h : ∀ τ : Mem, FX b σ τ → Pr τ b (n + dN v) → Q τ) : wJ4_append_bf812 b x σ Q E := by
  refine w_appI P.1 hx hv (by omega) (fun τ t1 t2 t3 t4 => h τ t1 ⟨t2, fun i hi => ?_⟩)
  by_cases c : i < n
  · obtain ⟨y, y1, y2, y3⟩ := P.2 i c
    exact ⟨y, y1, y2, (t3 i c).trans y3⟩
  · have g := dc_47 v (dN v) (i - n)
    refine ⟨dc v (dN v) (i - n), by omega, by omega, ?_⟩
    rw [← t4 (i - n) (by omega)]
    congr 1
    omega
