/-! TEXTS: the class's builders -/
/-- builder b holds n signs -/
def WB (σ : Mem) (b n : Nat) : Prop := rd σ 13 b 1 = 0 ∧ rd σ 13 b 3 = nI n ∧ n ≤ σ.2.2.1 b ∧ (σ.2.2.1 b = 16 ∨ σ.2.2.1 b = 34 ∨ σ.2.2.1 b = 70 ∨ σ.2.2.1 b = 142) ∧ ∀ i : Nat, i < σ.2.2.1 b → fits .byte (.int (rd σ 16 b i)) = true
/-- only builder b changed -/
def FX (b : Nat) (σ τ : Mem) : Prop := (∀ f k s : Nat, ¬ ((f = 13 ∨ f = 16) ∧ k = b) → rd τ f k s = rd σ f k s) ∧ (∀ k : Nat, k ≠ b → τ.2.2.1 k = σ.2.2.1 k) ∧ τ.2.2.2 = σ.2.2.2
theorem FX.rf (b : Nat) (σ : Mem) : FX b σ σ := ⟨fun _ _ _ _ => rfl, fun _ _ => rfl, rfl⟩
theorem FX.tr {b : Nat} {σ τ u : Mem} (h1 : FX b σ τ) (h2 : FX b τ u) : FX b σ u := ⟨fun f k s n => (h2.1 f k s n).trans (h1.1 f k s n), fun k hk => (h2.2.1 k hk).trans (h1.2.1 k hk), h2.2.2.trans h1.2.2⟩
theorem Txt.wb {σ : Mem} {b n : Nat} {a : Nat → Int32} (h : Txt σ b n a) : WB σ b n := ⟨h.1, h.2.1, h.2.2.1, h.2.2.2.1, h.2.2.2.2.2⟩
theorem Txt.mk {σ : Mem} {b n : Nat} {a : Nat → Int32} (h : WB σ b n) (h2 : ∀ i : Nat, i < n → rd σ 16 b i = a i ∧ ∃ c : Nat, c < 128 ∧ a i = nI c) : Txt σ b n a := ⟨h.1, h.2.1, h.2.2.1, h.2.2.2.1, h2, h.2.2.2.2⟩
theorem w_ens {b n m : Nat} {x : Int32} {σ : Mem} {Q : Mem → Prop} {E : String → Mem → Prop} (W : WB σ b n) (hx : x = nI m) (h1 : n ≤ m) (h2 : m ≤ n + 5) (h3 : m ≤ 90) (h : ∀ τ : Mem, FX b σ τ → WB τ b n → m ≤ τ.2.2.1 b → (∀ i : Nat, i < n → rd τ 16 b i = rd σ 16 b i) → Q τ) : wJ5_ensureCapacityInternal_d00df b x σ Q E := by
  obtain ⟨w1, w2, w3, w4, w5⟩ := W
  refine ⟨w1, by omega, w5, m, hx, by omega, fun c => h σ (FX.rf b σ) ⟨w1, w2, w3, w4, w5⟩ c (fun _ _ => rfl), fun c a => ?_⟩
  have ec : capN (σ.2.2.1 b) m = 2 * σ.2.2.1 b + 2 := by
    unfold capN
    rw [if_pos (by omega)]
    omega
  have e1 : (grow σ b a (capN (σ.2.2.1 b) m)).2.2.1 b = 2 * σ.2.2.1 b + 2 := (if_pos rfl).trans ec
  refine h _ ⟨fun f k s q => ?_, fun k hk => if_neg hk, rfl⟩ ⟨?_, ?_, ?_, ?_, fun i hi => ?_⟩ ?_ (fun i hi => ?_)
  · rw [rd_grow, if_neg (by omega)]
  · rw [rd_grow, if_neg (by omega)]; exact w1
  · rw [rd_grow, if_neg (by omega)]; exact w2
  · rw [e1]; omega
  · rw [e1]; omega
  · rw [rd_grow, if_pos ⟨rfl, rfl⟩]
    by_cases c2 : i < σ.2.2.1 b
    · rw [if_pos c2]; exact w5 i c2
    · rw [if_neg c2]; decide
  · rw [e1]; omega
  · rw [rd_grow, if_pos ⟨rfl, rfl⟩, if_pos (by omega)]
theorem byte_c : ∀ c : Nat, c < 128 → vp_nar .byte (nI c).toInt8.toInt32 = nI c ∧ vp_nar .byte (nI c) = nI c ∧ fits .byte (.int (nI c)) = true := by decide +kernel
/-- a sign written behind the text -/
theorem w_put16 {b n p c : Nat} {v : Int32} {σ : Mem} (hc : c < 128) (hv : v = nI c) (W : WB σ b n) : FX b σ (wr σ 16 b p v) ∧ WB (wr σ 16 b p v) b n := by
  subst hv
  obtain ⟨w1, w2, w3, w4, w5⟩ := W
  refine ⟨⟨fun f k s q => by rw [rd_wr, if_neg (by omega)], fun _ _ => rfl, rfl⟩, ?_, ?_, w3, w4, fun i hi => ?_⟩
  · rw [rd_wr, if_neg (by omega)]; exact w1
  · rw [rd_wr, if_neg (by omega)]; exact w2
  · rw [rd_wr]
    split
    · exact (byte_c c hc).2.2
    · exact w5 i hi
theorem w_len13 {b n m : Nat} {v : Int32} {σ : Mem} (hv : v = nI m) (hm : m ≤ σ.2.2.1 b) (W : WB σ b n) : FX b σ (wr σ 13 b 3 v) ∧ WB (wr σ 13 b 3 v) b m := by
  subst hv
  obtain ⟨w1, w2, w3, w4, w5⟩ := W
  refine ⟨⟨fun f k s q => by rw [rd_wr, if_neg (by omega)], fun _ _ => rfl, rfl⟩, ?_, ?_, hm, w4, fun i hi => ?_⟩
  · rw [rd_wr, if_neg (by omega)]; exact w1
  · rw [rd_wr, if_pos ⟨rfl, rfl, rfl⟩]
  · rw [rd_wr, if_neg (by omega)]; exact w5 i hi
theorem w_appC {b n c : Nat} {x : Int32} {σ : Mem} {Q : Mem → Prop} {E : String → Mem → Prop} (W : WB σ b n) (hx : x = nI c) (hc : c < 128) (hn : n + 1 ≤ 90) (h : ∀ τ : Mem, FX b σ τ → WB τ b (n + 1) → (∀ i : Nat, i < n → rd τ 16 b i = rd σ 16 b i) → rd τ 16 b n = nI c → Q τ) : wJ4_append_cf468 b x σ Q E := by
  subst hx
  unfold wJ4_append_cf468 wJ5_append_3fe6f
  refine w_ens W (m := n + 1) (by rw [W.2.1, nI_1]) (by omega) (by omega) hn (fun τ t1 t2 t3 t4 => ?_)
  refine ⟨fun q => absurd t2.1 q, fun _ => ⟨rfl, fun q => absurd q (by decide), fun _ => ?_⟩⟩
  refine ⟨fun q => absurd q (show ¬ (255 : Int32) < nI c from nI_nlt (a := 255) (b := c) (by omega) (by omega)), fun _ => ⟨rfl, fun q => absurd q (by decide), fun _ s7 h7 => ?_⟩⟩
  rw [t2.2.1, nI_1] at h7
  rw [t2.2.1, nI_clamp (by omega)]
  have L := w_len13 (b := b) (n := n) (m := n + 1) rfl t3 t2
  rw [← h7] at L
  refine ⟨vp_in_nI (show n < s7.2.2.1 b by have := L.2.2.2.1; omega) (by have := L.2.2.2.2.1; omega), fun s8 h8 => ?_⟩
  rw [(byte_c c hc).1] at h8
  have P := w_put16 (p := n) hc rfl L.2
  rw [← h8] at P
  refine h s8 (t1.tr (L.1.tr P.1)) P.2 (fun i hi => ?_) (by rw [h8, rd_wr, if_pos ⟨rfl, rfl, rfl⟩])
  rw [h8, rd_wr, if_neg (by omega), h7, rd_wr, if_neg (by omega)]
  exact t4 i hi
theorem w_len {b n : Nat} {σ : Mem} {Q : Int32 → Mem → Prop} {E : String → Mem → Prop} (W : WB σ b n) (h : Q (nI n) σ) : wJ4_length_8abf5 b σ Q E := ⟨rfl, by rw [W.2.1]; exact h⟩
theorem w_setLen0 {b n : Nat} {σ : Mem} {Q : Mem → Prop} {E : String → Mem → Prop} (W : WB σ b n) (h : ∀ τ : Mem, FX b σ τ → WB τ b 0 → (∀ i : Nat, rd τ 16 b i = rd σ 16 b i) → Q τ) : wJ4_setLength_d00df b 0 σ Q E := by
  have W0 := W
  obtain ⟨w1, w2, w3, w4, w5⟩ := W
  refine ⟨fun _ => ⟨w1, by omega, w5, 0, rfl, by omega, fun _ => ?_, fun q => absurd q (Nat.not_lt_zero _)⟩, fun q => absurd (by decide) q⟩
  show (0 ≤ rd σ 13 b 3 → (rd σ 13 b 3 ≤ 0 → ∀ s3 : Mem, s3 = wr σ 13 b 3 0 → Q s3) ∧ (¬ rd σ 13 b 3 ≤ 0 → ∀ s4 : Mem, s4 = wr σ 13 b 2 1 → ∀ s5 : Mem, s5 = wr s4 13 b 3 0 → Q s5)) ∧ (¬ 0 ≤ rd σ 13 b 3 → False)
  rw [w2]
  refine ⟨fun _ => ⟨fun _ s3 h3 => ?_, fun _ s4 h4 s5 h5 => ?_⟩, fun q => absurd (nI_pos' (by omega)) q⟩
  · have L := w_len13 (b := b) (m := 0) rfl (Nat.zero_le _) W0
    rw [show (nI 0 : Int32) = 0 from rfl, ← h3] at L
    exact h s3 L.1 L.2 (fun i => by rw [h3, rd_wr, if_neg (by omega)])
  · have W4 : WB s4 b n := by
      refine ⟨?_, ?_, ?_, ?_, fun i hi => ?_⟩
      · rw [h4, rd_wr, if_neg (by omega)]; exact w1
      · rw [h4, rd_wr, if_neg (by omega)]; exact w2
      · rw [h4]; exact w3
      · rw [h4]; exact w4
      · rw [h4] at hi ⊢
        rw [rd_wr, if_neg (by omega)]
        exact w5 i hi
    have F4 : FX b σ s4 := by
      rw [h4]
      exact ⟨fun f k s q => by rw [rd_wr, if_neg (by omega)], fun _ _ => rfl, rfl⟩
    have L := w_len13 (b := b) (m := 0) rfl (Nat.zero_le _) W4
    rw [show (nI 0 : Int32) = 0 from rfl, ← h5] at L
    exact h s5 (F4.tr L.1) L.2 (fun i => by rw [h5, rd_wr, if_neg (by omega), h4, rd_wr, if_neg (by omega)])
