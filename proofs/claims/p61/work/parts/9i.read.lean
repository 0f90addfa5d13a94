/-! A SCRIPT READ: the class -/
theorem w_chAt {n i : Nat} {a : Nat → Int32} {σ : Mem} {Q : Int32 → Mem → Prop} {E : String → Mem → Prop} (T : Txt σ 0 n a) (hn : n ≤ 60) (hi : i < n) (h : Q (nI (sg n a i)) σ) : wJ4_charAt_5068e 0 (nI i) σ Q E := by
  obtain ⟨e1, -, hc⟩ := sg_in T hi
  obtain ⟨x1, x2, x3, x4, -, -⟩ := T
  intro v2 hv2 v4 hv4
  rw [x1] at hv2
  subst hv2
  refine ⟨nI_pos (by omega), ?_, rfl, fun z => absurd rfl z, fun _ => ?_⟩
  · rw [hv4, x2, show (nI (σ.2.2.1 0)) >>> ((0 : Int32) &&& 31) = nI (σ.2.2.1 0) from by
      rw [show ((0 : Int32) &&& 31) = 0 from by decide]
      exact Int32.shiftRight_zero]
    split
    · exact nI_lt (by omega) (by omega)
    · exact nI_lt hi (by omega)
  · rw [nI_clamp (by omega), e1, ch_and hc]
    exact ⟨vp_in_nI (by omega) (by omega), ch_ok hc, rfl, ch_ok hc, h⟩
theorem w_isSg {n p v : Nat} {a : Nat → Int32} {σ : Mem} {x : Int32} {Q : Int32 → Mem → Prop} {E : String → Mem → Prop} (T : Txt σ 0 n a) (hn : n ≤ 60) (hp : p ≤ 1000) (hx : x = nI p) (hv : v < 128) (h0 : ¬ sg n a p = v → Q 0 σ) (h1 : sg n a p = v → Q 1 σ) : wX8_isSign x (nI v) σ Q E := by
  subst hx
  unfold wX8_isSign
  refine w_len T.wb ⟨rfl, fun q => ?_, fun q => ?_⟩
  · rw [nI_leI (by omega) (by omega)] at q
    exact h0 (by rw [sg_out (by omega)]; omega)
  · rw [nI_leI (by omega) (by omega)] at q
    have := sg_200 T p
    refine w_chAt T hn (by omega) ⟨rfl, fun z => h0 fun e => z (by rw [e]), fun z => h1 ?_⟩
    rw [nI_eq (by omega) (by omega)] at z
    exact z
theorem w_isDg {n p : Nat} {a : Nat → Int32} {σ : Mem} {x : Int32} {Q : Int32 → Mem → Prop} {E : String → Mem → Prop} (T : Txt σ 0 n a) (hn : n ≤ 60) (hp : p ≤ 1000) (hx : x = nI p) (h0 : ¬ (48 ≤ sg n a p ∧ sg n a p ≤ 57) → Q 0 σ) (h1 : 48 ≤ sg n a p ∧ sg n a p ≤ 57 → p < n → Q 1 σ) : wX8_isDigit x σ Q E := by
  subst hx
  unfold wX8_isDigit
  have hs := sg_200 T p
  refine w_len T.wb ⟨rfl, fun q => ?_, fun q => ?_⟩
  · rw [nI_leI (by omega) (by omega)] at q
    exact h0 (by rw [sg_out (by omega)]; omega)
  · rw [nI_leI (by omega) (by omega)] at q
    refine w_chAt T hn (by omega) ⟨rfl, fun z => ?_, fun z => w_chAt T hn (by omega) ⟨rfl, fun y => ?_, fun y => ?_⟩⟩
    · rw [show (48 : Int32) = nI 48 from rfl, nI_ltI (by omega) (by omega)] at z
      exact h0 (by omega)
    · rw [show (57 : Int32) = nI 57 from rfl, nI_ltI (by omega) (by omega)] at y
      exact h0 (by omega)
    · rw [show (48 : Int32) = nI 48 from rfl, nI_ltI (by omega) (by omega)] at z
      rw [show (57 : Int32) = nI 57 from rfl, nI_ltI (by omega) (by omega)] at y
      exact h1 (by omega) (by omega)
/-- the text stays when only the reader's own cells change -/
theorem Txt.rd {n : Nat} {a : Nat → Int32} {σ τ : Mem} (T : Txt σ 0 n a) (h : ∀ f k s : Nat, f = 13 ∨ f = 16 → rd τ f k s = rd σ f k s) (h2 : τ.2 = σ.2) : Txt τ 0 n a :=
  T.on2 (fun s => h 13 0 s (Or.inl rfl)) (fun s => h 16 0 s (Or.inr rfl)) (by rw [h2]) (fun _ => rfl)
theorem words_c : ∀ j : Nat, j < 9 → stLen.getD j 0 = (wl j).length ∧ (∀ q : Nat, q < (wl j).length → (stByt.getD j []).getD q 0 = nI ((wl j).getD q 0) ∧ (wl j).getD q 0 < 128) ∧ (wl j).length < 10 := by decide +kernel
theorem w_wlen {j m : Nat} {σ : Mem} {Q : Int32 → Mem → Prop} {E : String → Mem → Prop} (h : stLen.getD j 0 = m) (k : Q (nI m) σ) : wJ0_length_8abf5 j σ Q E := by
  refine ⟨rfl, ?_⟩
  rw [h, show (nI m) >>> ((0 : Int32) &&& 31) = nI m from by
      rw [show ((0 : Int32) &&& 31) = 0 from by decide]
      exact Int32.shiftRight_zero]
  exact k
theorem w_wat {j m i c : Nat} {σ : Mem} {Q : Int32 → Mem → Prop} {E : String → Mem → Prop} (h : stLen.getD j 0 = m) (hm : m < 1000) (hi : i < m) (e : (stByt.getD j []).getD i 0 = nI c) (hc : c < 128) (k : Q (nI c) σ) : wJ0_charAt_5068e j (nI i) σ Q E := by
  refine ⟨rfl, fun q => absurd q (by decide), fun _ => ⟨nI_pos (by omega), ?_, rfl, ?_, ?_⟩⟩
  · rw [h]
    exact nI_lt hi (by omega)
  · rw [h]
    exact vp_in_nI hi (by omega)
  · rw [nI_clamp (by omega), e, ch_and hc]
    exact ⟨ch_ok hc, rfl, ch_ok hc, k⟩
theorem w_same {n p j : Nat} {a : Nat → Int32} {σ : Mem} {Q : Int32 → Mem → Prop} {E : String → Mem → Prop} (T : Txt σ 0 n a) (hn : n ≤ 60) (hp : p ≤ 900) (h4 : rd σ 11 0 4 = nI p) (hj : j < 9) (h : Q (nI (lc (sg n a) p (wl j))) σ) : wX8_countSameSigns j σ Q E := by
  obtain ⟨c1, c2, c3⟩ := words_c j hj
  unfold wX8_countSameSigns
  refine ⟨(wl j).length + 1, ?_⟩
  have key : ∀ (u : List Nat) (i : Nat), i + u.length = (wl j).length → (∀ q : Nat, q < u.length → (wl j).getD (i + q) 0 = u.getD q 0) → i + lc (sg n a) (p + i) u = lc (sg n a) p (wl j) → wX8_countSameSigns_2 j Q E (fun (x2_8 : Int32) (s9 : Mem) => Q x2_8 s9) (u.length + 1) (nI i) σ := by
    intro u
    induction u with
    | nil =>
      intro i e _ r
      refine w_wlen c1 ⟨rfl, fun _ => ?_, fun q => absurd ?_ q⟩
      · have r' : i = lc (sg n a) p (wl j) := r
        show Q (nI i) σ
        rw [r']
        exact h
      · rw [nI_leI (by omega) (by omega)]
        simp at e
        omega
    | cons b u ih =>
      intro i e g r
      rw [List.length_cons] at e
      have hb := g 0 (by rw [List.length_cons]; omega)
      rw [Nat.add_zero] at hb
      have hb2 : (wl j).getD i 0 = b := hb
      obtain ⟨d1, d2⟩ := c2 i (by omega)
      rw [hb2] at d1 d2
      refine w_wlen c1 ⟨rfl, fun q => ?_, fun _ => ?_⟩
      · rw [nI_leI (by omega) (by omega)] at q
        omega
      refine w_wat c1 (by omega) (by omega) d1 d2 ⟨rfl, ?_⟩
      refine w_isSg T hn (p := p + i) (by omega) (by rw [h4, nI_add]) d2 (fun ne => ⟨fun _ => ?_, fun z => absurd rfl z⟩) (fun eq => ⟨fun z => absurd z (by decide), fun _ v2 hv => ?_⟩)
      · rw [lc_ne ne] at r
        show Q (nI i) σ
        rw [show i = lc (sg n a) p (wl j) from r]
        exact h
      · rw [nI_1] at hv
        subst hv
        rw [lc_eq eq] at r
        refine ih (i + 1) (by omega) (fun q hq => ?_) (by rw [show p + (i + 1) = p + i + 1 by omega]; omega)
        have := g (q + 1) (by rw [List.length_cons]; omega)
        rw [show i + 1 + q = i + (q + 1) by omega, this]
        rfl
  exact key (wl j) 0 (Nat.zero_add _) (fun q _ => by rw [Nat.zero_add]) (by rw [Nat.zero_add]; rfl)
theorem w_word {n p : Nat} {a : Nat → Int32} {σ : Mem} {Q : Option Nat → Mem → Prop} {E : String → Mem → Prop} (T : Txt σ 0 n a) (hn : n ≤ 60) (hp : p ≤ 800) (h4 : rd σ 11 0 4 = nI p)
    (h1 : wn (sg n a) p < 9 → lc (sg n a) p (wl (wn (sg n a) p)) = (wl (wn (sg n a) p)).length → Q (some (wn (sg n a) p)) (wr σ 11 0 4 (nI (p + (wl (wn (sg n a) p)).length))))
    (h0 : (wn (sg n a) p = 9 ∨ lc (sg n a) p (wl (wn (sg n a) p)) < (wl (wn (sg n a) p)).length) → Q none (wr σ 11 0 4 (nI (p + lc (sg n a) p (wl (wn (sg n a) p)))))) : wX8_readWord σ Q E := by
  obtain ⟨W, hW⟩ : ∃ W, W = wn (sg n a) p := ⟨_, rfl⟩
  have top := wn_top (sg n a) p
  have h9 := wn_9 (sg n a) p
  rw [← hW] at h1 h0 top h9
  obtain ⟨M, hM⟩ : ∃ M, M = lc (sg n a) p (wl W) := ⟨_, rfl⟩
  rw [← hM] at h1 h0 top
  have m9 : W = 9 → M = 0 := fun e => by rw [hM, e]; rfl
  have hMl : M ≤ 10 := by
    by_cases e : W = 9
    · rw [m9 e]; omega
    · have := lc_le (sg n a) (wl W) p
      have := (words_c W (by omega)).2.2
      omega
  unfold wX8_readWord
  refine ⟨10, ?_⟩
  have key : ∀ (d i b : Nat), d + i = 9 → b ≤ M → (W < i → b = M ∧ M < (wl W).length) → wX8_readWord_4 Q E (fun (x4_9 : Int32) (j8 : Nat) (s10 : Mem) => ∀ s11 : Mem, s11 = wr s10 11 0 4 ((rd s10 11 0 4) + x4_9) → Q (some j8) s11) (fun (x1_12 : Int32) (s13 : Mem) => ∀ s14 : Mem, s14 = wr s13 11 0 4 ((rd s13 11 0 4) + x1_12) → Q (none) s14) (d + 1) (nI b) (nI i) σ := by
    intro d
    induction d with
    | zero =>
      intro i b e hb hb2
      refine ⟨fun _ s hs => ?_, fun q => absurd ?_ q⟩
      · rw [h4, nI_add] at hs
        subst hs
        have : b = M ∧ (W = 9 ∨ M < (wl W).length) := by
          by_cases c : W = 9
          · have := m9 c
            omega
          · have := hb2 (by omega)
            omega
        rw [this.1]
        exact h0 this.2
      · rw [show (9 : Int32) = nI 9 from rfl, nI_leI (by omega) (by omega)]
        omega
    | succ d ih =>
      intro i b e hb hb2
      refine ⟨fun q => ?_, fun _ => ⟨vp_in_nI (show i < 9 by omega) (by decide), fun j1 hj1 => ?_⟩⟩
      · rw [show (9 : Int32) = nI 9 from rfl, nI_leI (by omega) (by omega)] at q
        omega
      rw [nI_clamp (by omega)] at hj1
      subst hj1
      obtain ⟨t1, t2⟩ := top j1 (by omega)
      obtain ⟨c1, -, c3⟩ := words_c j1 (by omega)
      have ll := lc_le (sg n a) (wl j1) p
      refine w_same T hn (by omega) h4 (by omega) ?_
      refine w_wlen c1 ⟨rfl, fun q v1 hv1 v2 hv2 => ?_, fun q => ?_⟩
      · rw [nI_eq (by omega) (by omega)] at q
        rw [nI_1] at hv2
        subst hv2
        have ev : v1 = nI (if b < lc (sg n a) p (wl j1) then lc (sg n a) p (wl j1) else b) := by
          rw [hv1]
          by_cases c : b < lc (sg n a) p (wl j1)
          · rw [if_pos c, if_pos ((nI_ltI (by omega) (by omega)).mpr c)]
          · rw [if_neg c, if_neg (fun z => c ((nI_ltI (by omega) (by omega)).mp z))]
        subst ev
        refine ih (j1 + 1) _ (by omega) (by split <;> omega) (fun hw => ?_)
        by_cases c : W = j1
        · subst c
          rw [← hM] at q ll ⊢
          refine ⟨by split <;> omega, by omega⟩
        · have := hb2 (by omega)
          refine ⟨by split <;> omega, this.2⟩
      · rw [nI_eq (by omega) (by omega)] at q
        have c : j1 = W := by
          by_cases c : j1 = W
          · exact c
          · have := t2 c
            omega
        intro s hs
        rw [h4, q, nI_add] at hs
        subst hs
        subst c
        exact h1 (by omega) (hM.trans q)
  exact key 9 0 0 rfl (Nat.zero_le _) (fun q => absurd q (Nat.not_lt_zero _))
/-- a number -/
theorem w_num {n p x D : Nat} {a : Nat → Int32} {σ : Mem} {Q : Int32 → Mem → Prop} {E : String → Mem → Prop} (T : Txt σ 0 n a) (hn : n ≤ 60) (hp : p ≤ 800) (h4 : rd σ 11 0 4 = nI p) (hD : D ≤ 3) (hx : x < 180)
    (h : ∀ τ : Mem, (∀ f k s : Nat, ¬ (f = 11 ∧ k = 0 ∧ s = 4) → ¬ (f = 10 ∧ k = 7 ∧ s = x) → rd τ f k s = rd σ f k s) → τ.2 = σ.2 → rd τ 11 0 4 = nI (rdN (sg n a) D p 0).2 → ((rdN (sg n a) D p 0).2 = p → Q 0 τ) ∧ (¬ (rdN (sg n a) D p 0).2 = p → rd τ 10 7 x = nI (rdN (sg n a) D p 0).1 → Q 1 τ)) : wX8_readNumber (nI x) (nI D) σ Q E := by
  unfold wX8_readNumber
  refine ⟨D + 1, ?_⟩
  have key : ∀ (d r v q : Nat) (u : Mem), d + r = D → p + r = q → rdN (sg n a) d q v = rdN (sg n a) D p 0 → (∀ f k s : Nat, ¬ (f = 11 ∧ k = 0 ∧ s = 4) → rd u f k s = rd σ f k s) → u.2 = σ.2 → rd u 11 0 4 = nI q → wX8_readNumber_5 Q E (fun (x1_8 : Int32) (x3_9 : Int32) (x4_10 : Int32) (s11 : Mem) => ((x4_10 = 0 → Q 0 s11) ∧ (¬ x4_10 = 0 → ((x1_8 < nI (iaLen 7) → vp_in x1_8 (iaLen 7) ∧ ∀ s12 : Mem, s12 = wr s11 10 7 x1_8.toNatClampNeg x3_9 → Q 1 s12) ∧ (¬ x1_8 < nI (iaLen 7) → Q 0 s11))))) (d + 1) (nI x) (nI D) (nI v) (nI r) u := by
    intro d
    have fin : ∀ (d r v q : Nat) (u : Mem), d + r = D → p + r = q → rdN (sg n a) D p 0 = (v, q) → (∀ f k s : Nat, ¬ (f = 11 ∧ k = 0 ∧ s = 4) → rd u f k s = rd σ f k s) → u.2 = σ.2 → rd u 11 0 4 = nI q → ((nI r = 0 → Q 0 u) ∧ (¬ nI r = 0 → ((nI x < nI (iaLen 7) → vp_in (nI x) (iaLen 7) ∧ ∀ s12 : Mem, s12 = wr u 10 7 (nI x).toNatClampNeg (nI v) → Q 1 s12) ∧ (¬ nI x < nI (iaLen 7) → Q 0 u)))) := by
      intro d r v q u e1 e2 e3 g g2 g4
      rw [e3] at h
      refine ⟨fun z => ?_, fun z => ⟨fun _ => ⟨vp_in_nI (show x < 180 from hx) (by decide), fun s hs => ?_⟩, fun z => absurd (nI_lt (show x < 180 from hx) (by decide)) z⟩⟩
      · rw [show (0 : Int32) = nI 0 from rfl, nI_eq (by omega) (by omega)] at z
        exact (h u (fun f k s n1 _ => g f k s n1) g2 g4).1 (by show q = p; omega)
      · rw [show (0 : Int32) = nI 0 from rfl, nI_eq (by omega) (by omega)] at z
        rw [nI_clamp (by omega)] at hs
        refine (h s (fun f k s' n1 n2 => ?_) ?_ ?_).2 (by show ¬ q = p; omega) ?_
        · rw [hs, rd_wr, if_neg (by omega)]
          exact g f k s' n1
        · rw [hs, wr_2]
          exact g2
        · rw [hs, rd_wr, if_neg (by omega)]
          exact g4
        · rw [hs, rd_wr, if_pos ⟨rfl, rfl, rfl⟩]
    induction d with
    | zero =>
      intro r v q u e1 e2 e4 g g2 g4
      exact ⟨fun _ => fin 0 r v q u e1 e2 e4.symm g g2 g4, fun z => absurd (by rw [nI_leI (by omega) (by omega)]; omega) z⟩
    | succ d ih =>
      intro r v q u e1 e2 e4 g g2 g4
      refine ⟨fun z => ?_, fun _ => ?_⟩
      · rw [nI_leI (by omega) (by omega)] at z
        omega
      have Tu : Txt u 0 n a := T.rd (fun f k s hf => g f k s (by omega)) g2
      rw [show rdN (sg n a) (d + 1) q v = if 48 ≤ sg n a q ∧ sg n a q ≤ 57 then rdN (sg n a) d (q + 1) (10 * v + (sg n a q - 48)) else (v, q) from rfl] at e4
      refine w_isDg Tu hn (p := q) (by omega) g4 (fun nd => ⟨fun _ => ?_, fun z => absurd rfl z⟩) (fun dd hq => ⟨fun z => absurd z (by decide), fun _ => ?_⟩)
      · rw [if_neg nd] at e4
        exact fin (d + 1) r v q u e1 e2 e4.symm g g2 g4
      · rw [if_pos dd] at e4
        rw [g4]
        refine w_chAt Tu hn hq ⟨rfl, fun v3 hv3 s6 hs6 v4 hv4 => ?_⟩
        rw [nI_1] at hs6 hv4
        rw [show (48 : Int32) = nI 48 from rfl, pk_sub dd.1, show (10 : Int32) = nI 10 from rfl, pk_mul, nI_add, Nat.mul_comm v 10] at hv3
        subst hv3 hv4
        refine ih (r + 1) _ (q + 1) s6 (by omega) (by omega) e4 (fun f k s n1 => ?_) ?_ ?_
        · rw [hs6, rd_wr, if_neg n1]
          exact g f k s n1
        · rw [hs6, wr_2]
          exact g2
        · rw [hs6, rd_wr, if_pos ⟨rfl, rfl, rfl⟩]
  exact key D 0 0 p σ rfl rfl rfl (fun _ _ _ _ => rfl) rfl h4
