/-! A CHANGE: one lemma for all nine -/
/-- both refuse: the class with r, the reference with h -/
def ChR (c : Nat) (x1 x2 x3 : Int32) (wR : Mem → (Int32 → Mem → Prop) → (String → Mem → Prop) → Prop) (nB nO nP : Nat) (a : Nat → Int32) (r : Nat) (h : Int32) : Prop :=
  (∀ (σ : Mem) (Q : Nat → Mem → Prop) (E : String → Mem → Prop), Same σ 0 nB nO nP a → Zer σ → (∀ τ : Mem, FrS σ τ → Q r τ) → wX12_refusalOf c x1 x2 x3 σ Q E) ∧
  ∀ (σ : Mem) (Q : Int32 → Mem → Prop) (E : String → Mem → Prop), rd σ 10 8 = a → (∀ τ : Mem, FrR σ τ → rd τ 10 8 = a → rd τ 15 0 7 = h → Q 0 τ) → wR σ Q E
/-- both make the change, and answer v -/
def ChD (c : Nat) (x1 x2 x3 : Int32) (wR : Mem → (Int32 → Mem → Prop) → (String → Mem → Prop) → Prop) (nB nO nP : Nat) (a : Nat → Int32) (nB' nO' nP' : Nat) (a' : Nat → Int32) (v : Int32) : Prop :=
  (∀ (σ : Mem) (Q : Nat → Mem → Prop) (E : String → Mem → Prop), Same σ 0 nB nO nP a → Zer σ → (∀ τ : Mem, FrS σ τ → Q 0 τ) → wX12_refusalOf c x1 x2 x3 σ Q E) ∧
  (∀ (σ : Mem) (Q : Int32 → Mem → Prop) (E : String → Mem → Prop), Same σ 0 nB nO nP a → Zer σ → (∀ τ : Mem, FrC σ τ → Same τ 0 nB' nO' nP' a' → Q v τ) → wX12_carryOut c x1 x2 x3 σ Q E) ∧
  ∀ (σ : Mem) (Q : Int32 → Mem → Prop) (E : String → Mem → Prop), rd σ 10 8 = a → (∀ τ : Mem, FrR σ τ → rd τ 10 8 = a' → rd τ 15 0 7 = 0 → Q v τ) → wR σ Q E
def Ch (c : Nat) (x1 x2 x3 : Int32) (L : List (Nat × Int32)) (wR : Mem → (Int32 → Mem → Prop) → (String → Mem → Prop) → Prop) (t nB nO nP : Nat) (a : Nat → Int32) : Prop :=
  (∃ (r : Nat) (h : Int32), (r, h) ∈ L ∧ ChR c x1 x2 x3 wR nB nO nP a r h) ∨ ∃ (nB' nO' nP' : Nat) (a' : Nat → Int32) (v : Int32), Fits (t + 1) nB' nO' nP' a' ∧ ChD c x1 x2 x3 wR nB nO nP a nB' nO' nP' a' v
def exN : Nat → String
  | 1 => "java/lang/IllegalArgumentException"
  | 2 => "java/lang/IllegalStateException"
  | 3 => "java/lang/UnsupportedOperationException"
  | 4 => "java/util/NoSuchElementException"
  | _ => "java/lang/IndexOutOfBoundsException"
theorem w_throw {r : Nat} {σ : Mem} {Q : Mem → Prop} {E : String → Mem → Prop} (h1 : 1 ≤ r ∧ r ≤ 5) (h : E (exN r) σ) : wX12_throwFor r σ Q E := by
  unfold wX12_throwFor
  match r, h1, h with
  | 1, _, h => exact ⟨fun q => absurd rfl q, fun _ => h⟩
  | 2, _, h => exact ⟨fun _ => ⟨fun q => absurd rfl q, fun _ => h⟩, fun q => absurd q (by decide)⟩
  | 3, _, h => exact ⟨fun _ => ⟨fun _ => ⟨fun q => absurd rfl q, fun _ => h⟩, fun q => absurd q (by decide)⟩, fun q => absurd q (by decide)⟩
  | 4, _, h => exact ⟨fun _ => ⟨fun _ => ⟨fun _ => ⟨fun q => absurd rfl q, fun _ => h⟩, fun q => absurd q (by decide)⟩, fun q => absurd q (by decide)⟩, fun q => absurd q (by decide)⟩
  | 5, _, h => exact ⟨fun _ => ⟨fun _ => ⟨fun _ => ⟨fun _ => ⟨fun q => absurd rfl q, fun _ => h⟩, fun q => absurd q (by decide)⟩, fun q => absurd q (by decide)⟩, fun q => absurd q (by decide)⟩, fun q => absurd q (by decide)⟩
theorem w_throw0 {σ : Mem} {Q : Mem → Prop} {E : String → Mem → Prop} (h : Q σ) : wX12_throwFor 0 σ Q E :=
  ⟨fun _ => ⟨fun _ => ⟨fun _ => ⟨fun _ => ⟨fun _ => h, fun q => absurd q (by decide)⟩, fun q => absurd q (by decide)⟩, fun q => absurd q (by decide)⟩, fun q => absurd q (by decide)⟩, fun q => absurd q (by decide)⟩
theorem w_keeps {σ : Mem} {Q : Mem → Prop} {E : String → Mem → Prop} (h : ∀ τ : Mem, (∀ f k s : Nat, ¬ (f = 10 ∧ k = 9) → ¬ (f = 15 ∧ k = 0 ∧ s = 7) → rd τ f k s = rd σ f k s) → (∀ s : Nat, s < 90 → rd τ 10 9 s = rd σ 10 8 s) → rd τ 15 0 7 = 0 → τ.2 = σ.2 → Q τ) : wX13_keeps σ Q E := by
  refine w_copies (A := 0) (B := 0) rfl rfl (by decide) (by decide) (by decide) (by decide) (fun e => absurd e (by decide)) (fun w hw => ?_)
  intro s3 hs3
  refine h s3 (fun f k s n1 n2 => ?_) (fun s hs => ?_) ?_ ?_
  · rw [hs3, rd_wr, if_neg (by omega), hw.1, if_neg (by omega)]
  · rw [hs3, rd_wr, if_neg (by omega), hw.1, if_pos ⟨rfl, rfl, by omega, by omega⟩]
    congr 1
    omega
  · rw [hs3, rd_wr, if_pos ⟨rfl, rfl, rfl⟩]
  · rw [hs3, wr_2, hw.2]
theorem chg {j : Nat} {σ : Mem} (I : Inv j σ) {c : Nat} {x1 x2 x3 : Int32} {L : List (Nat × Int32)} {wR : Mem → (Int32 → Mem → Prop) → (String → Mem → Prop) → Prop} (hL : ∀ (r : Nat) (h : Int32), (r, h) ∈ L → (1 ≤ r ∧ r ≤ 5) ∧ h ≠ 0)
    (hch : ∀ (t nB nO nP : Nat) (a : Nat → Int32), t ≤ j → Fits t nB nO nP a → Ch c x1 x2 x3 L wR t nB nO nP a) {K : Int32 → Mem → Prop} {EX : String → Mem → Prop}
    (hK : ∀ (k : Int32) (s : Mem), wX13_keeps s (fun s2 => wR s2 (fun r3 s4 => wX13_ends r3 s4 (fun bb s6 => rd s6 15 0 7 = k ∧ (k = 0 → rdL s6 = bb.toInt64) ∧ Inv (j + 1) s6) (fun _ _ => False)) (fun _ _ => False)) (fun _ _ => False) → K k s)
    (hEX : ∀ (r : Nat) (h : Int32) (τ : Mem), (r, h) ∈ L → K h τ → EX (exN r) τ) : wX12_change c x1 x2 x3 σ (fun r τ => K 0 (wrL τ r.toInt64)) EX := by
  have I0 := I
  obtain ⟨t, nT, nL, nC, nx, hj, J⟩ := I
  have J0 := J
  obtain ⟨hN, ⟨nB, nO, nP, F, S⟩, h3, ⟨h4, h5, h6, h7⟩, h8, h9, h10, h11, hZ⟩ := J
  unfold wX12_change
  rcases hch t nB nO nP _ (by omega) F with ⟨r, h, hm, hC, hR⟩ | ⟨nB', nO', nP', a', v, F', hC, hD, hR⟩
  · obtain ⟨hr, hh⟩ := hL r h hm
    refine hC σ _ _ S hZ (fun τ u => w_throw hr (hEX r h τ hm (hK h τ ?_)))
    refine w_keeps (fun y y1 y2 y3 y4 => hR y _ _ (?_ : rd y 10 8 = rd σ 10 8) (fun z z1 z2 z3 => ?_))
    · funext s
      rw [y1 10 8 s (by omega) (by omega), u.1 10 8 s (by unfold scr; omega)]
    · refine ⟨fun q => absurd (z3.symm.trans q) hh, fun _ => ⟨z3, fun q => absurd q hh, I0.to ⟨fun f k s e => ?_, ?_⟩⟩⟩
      · by_cases c8 : f = 10 ∧ k = 8
        · obtain ⟨rfl, rfl⟩ := c8
          rw [z2]
        · have e' : ¬ scr f k s ∧ ¬ (f = 10 ∧ (k = 9 ∨ k = 13)) ∧ ¬ (f = 15 ∧ k = 0 ∧ s = 7) := by
            unfold scr
            refine ⟨?_, ?_, ?_⟩
            · rintro (rfl | rfl | rfl | ⟨rfl, q, q3⟩ | ⟨q, q2⟩)
              · simp [ess] at e
              · simp [ess] at e
              · simp [ess] at e
              · simp [ess] at e
                omega
              · have : f = 0 ∨ f = 1 := by omega
                simp [ess, this] at e
                omega
            · rintro ⟨rfl, q⟩
              simp [ess] at e
              omega
            · rintro ⟨rfl, -, rfl⟩
              simp [ess] at e
          rw [z1.1 f k s (by omega) e'.2.2, y1 f k s (by omega) e'.2.2, u.1 f k s e'.1]
      · rw [z1.2, y4, u.2]
  · refine hC σ _ _ S hZ (fun τ u => w_throw0 ?_)
    have us : ∀ k : Nat, k < 11 → ∀ f k' s : Nat, SIn k f k' → rd τ f k' s = rd σ f k' s := fun k hk f k' s hh => u.1 f k' s (by unfold SIn at hh; unfold scr; omega)
    have S1 : Same τ 0 nB nO nP (rd σ 10 8) := S.on (us 0 (by decide))
    refine w_record (nx := nx) (c := nC) ((u.1 5 0 1 (by unfold scr; omega)).trans h4) hN.2.2.2 ((u.1 5 0 2 (by unfold scr; omega)).trans h5) hN.2.2.1 (by decide) F.1.1 F.1.2.1 F.1.2.2.1 S1 (fun y y1 y2 y3 y4 y5 => ?_)
    have hx := hN.2.2.2
    have Zy : Zer y := ⟨fun k hk => by rw [y1 10 k 0 (by unfold SIn; omega) (by omega), u.1 10 k 0 (by unfold scr; omega)]; exact hZ.1 k hk, fun m hm => by rw [y1 10 12 m (by unfold SIn; omega) (by omega), u.1 10 12 m (by unfold scr; omega)]; exact hZ.2 m hm⟩
    refine hD y _ _ (S1.on fun f k' s hh => y1 f k' s (by unfold SIn at hh; unfold SIn; omega) (by unfold SIn at hh; omega)) Zy (fun z z1 z2 => hK 0 _ ?_)
    have el : ∀ f k s : Nat, rd (wrL z v.toInt64) f k s = rd z f k s := fun _ _ _ => rfl
    have z8 : rd z 10 8 = rd σ 10 8 := funext fun s => by rw [z1.1 10 8 s (by unfold SIn; omega) (by unfold scr; omega), y1 10 8 s (by unfold SIn; omega) (by omega), u.1 10 8 s (by unfold scr; omega)]
    refine w_keeps (fun w w1 w2 w3 w4 => hR w _ _ (?_ : rd w 10 8 = rd σ 10 8) (fun p p1 p2 p3 => ?_))
    · funext s
      rw [w1 10 8 s (by omega) (by omega), el, z8]
    have p6 : rd p 15 0 6 = nI nC := by
      rw [p1.1 15 0 6 (by omega) (by omega), w1 15 0 6 (by omega) (by omega), el, z1.1 15 0 6 (by unfold SIn; omega) (by unfold scr; omega), y1 15 0 6 (by unfold SIn; omega) (by omega), u.1 15 0 6 (by unfold scr; omega)]
      exact h6
    refine w_ends p3 p6 hN.2.2.1 (fun e e1 e2 e3 e4 => ⟨?_, fun _ => ?_, t + 1, nT, nL, cN nC, (nx + 1) % 8, by omega, ?_⟩)
    · rw [e1 15 0 7 (by omega) (by omega)]
      exact p3
    · show e.2.2.2.1 0 = v.toInt64
      rw [e2, p1.2, w4]
      rfl
    have ge : ∀ f k s : Nat, ¬ (f = 10 ∧ (k = 8 ∨ k = 9 ∨ k = 11 ∨ k = 13)) → ¬ (f = 15 ∧ k = 0 ∧ (s = 6 ∨ s = 7)) → rd e f k s = rd z f k s := by
      intro f k s n1 n2
      rw [e1 f k s (by omega) (by omega), p1.1 f k s (by omega) (by omega), w1 f k s (by omega) (by omega), el]
    have gz : ∀ f k s : Nat, ¬ SIn 0 f k → ¬ SIn (3 + nx) f k → ¬ scr f k s → ¬ (f = 5 ∧ k = 0 ∧ (s = 1 ∨ s = 2)) → rd z f k s = rd σ f k s := by
      intro f k s n1 n2 n3 n4
      rw [z1.1 f k s n1 n3, y1 f k s n2 n4, u.1 f k s n3]
    have pe : rd p 10 9 = rd w 10 9 := funext fun s => p1.1 10 9 s (by omega) (by omega)
    have pp : ∀ s : Nat, rd p 10 11 s = rd σ 10 11 s := fun s => by rw [p1.1 10 11 s (by omega) (by omega), w1 10 11 s (by omega) (by omega), el, gz 10 11 s (by unfold SIn; omega) (by unfold SIn; omega) (by unfold scr; omega) (by omega)]
    refine inv_rec J0 (Nat.le_succ t) hN.1 (fun f k s n0 n1 n2 n3 n4 n5 n6 n7 n8 => ?_) ?_ ?_ ?_ e3 ?_ ?_ (fun i q hi hq => ?_) (fun q hq => ?_) ?_ ?_
    · rw [ge f k s (by omega) (by omega)]
      exact gz f k s n0 n2 n3 n4
    · rw [e2, p1.2, w4]
      show z.2.2.1 = σ.2.2.1
      rw [z1.2, y2, u.2]
    · rw [ge 5 0 1 (by omega) (by omega), z1.1 5 0 1 (by unfold SIn; omega) (by unfold scr; omega)]
      exact y3
    · rw [ge 5 0 2 (by omega) (by omega), z1.1 5 0 2 (by unfold SIn; omega) (by unfold scr; omega)]
      exact y4
    · refine ⟨nB', nO', nP', ?_⟩
      have ea : rd e 10 8 = a' := by
        rw [← p2]
        exact funext fun s => e1 10 8 s (by omega) (by omega)
      rw [ea]
      exact ⟨F', z2.on fun f k' s hh => ge f k' s (by unfold SIn at hh; omega) (by unfold SIn at hh; omega)⟩
    · exact ⟨nB, nO, nP, F.mono (Nat.le_succ t), y5.on fun f k' s hh => (ge f k' s (by unfold SIn at hh; omega) (by unfold SIn at hh; omega)).trans (z1.1 f k' s (by unfold SIn at hh; unfold SIn; omega) (by unfold SIn at hh; unfold scr; omega))⟩
    · rw [e4.1 i q hi hq, pp]
    · rw [e4.2 q hq, pe, w2 q hq, el, z8]
    · exact h11.1.on (fun s => (ge 13 0 s (by omega) (by omega)).trans (gz 13 0 s (by unfold SIn; omega) (by unfold SIn; omega) (by unfold scr; omega) (by omega))) (fun s => (ge 16 0 s (by omega) (by omega)).trans (gz 16 0 s (by unfold SIn; omega) (by unfold SIn; omega) (by unfold scr; omega) (by omega))) (by rw [e2, p1.2, w4]; show z.2.2.1 = σ.2.2.1; rw [z1.2, y2, u.2]) (fun i => (ge 10 15 i (by omega) (by omega)).trans (gz 10 15 i (by unfold SIn; omega) (by unfold SIn; omega) (by unfold scr; omega) (by omega)))
    · rw [ge 15 0 17 (by omega) (by omega), gz 15 0 17 (by unfold SIn; omega) (by unfold SIn; omega) (by unfold scr; omega) (by omega)]
      exact h11.2
