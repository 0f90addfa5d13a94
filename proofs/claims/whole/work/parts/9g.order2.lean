/-! AN ORDER RENDERED: class and reference -/
theorem w_textO {n i id l w : Nat} {σ : Mem} {E : String → Mem → Prop} (hid : id < 1000) (hl : l ≤ 40) (hw : w ≤ 9) (hi : i < n) (hn : n ≤ 8) (h6 : rd σ 0 6 1 = nI n) (h7 : rd σ 0 7 1 = nI n) (k6 : rd σ 1 6 i = nI l) (k7 : rd σ 1 7 i = nI w) (W : WB σ 1 0)
    {X : Mem → Prop} (h : ∀ τ : Mem, FX 1 σ τ → WB τ 1 (oN id l w) → (∀ q : Nat, q < oN id l w → rd τ 16 1 q = nI (oT id l w q)) → X τ) :
    wJ4_append_bf812 1 (nI id) σ (fun (s6 : Mem) => wJ4_append_cf468 1 58 s6 (fun (s8 : Mem) => wX7_get 6 (nI i) s8 (fun (r9 : Int32) (s10 : Mem) => wJ4_append_bf812 1 r9 s10 (fun (s12 : Mem) => wJ4_append_15ec4 1 9 s12 (fun (s14 : Mem) => wX7_get 7 (nI i) s14 (fun (r15 : Int32) (s16 : Mem) => wJ4_append_bf812 1 r15 s16 (fun (s18 : Mem) => X s18) E) E) E) E) E) E) E := by
  have d1 := dN_pos id
  have d2 := dN_pos l
  have d3 := dN_pos w
  refine w_appI W rfl (by omega) (by omega) (fun a a1 a2 a3 a4 => ?_)
  rw [Nat.zero_add] at a2
  refine w_appC (c := 58) a2 rfl (by decide) (by omega) (fun b b1 b2 b3 b4 => ?_)
  have f2 := a1.tr b1
  refine w_get (k := 6) (n := n) (i := i) ((f2.1 0 6 1 (by omega)).trans h6) hi hn rfl ?_
  rw [f2.1 1 6 i (by omega), k6]
  refine w_appI b2 rfl (by omega) (by omega) (fun c c1 c2 c3 c4 => ?_)
  refine w_appK c2 (by omega) (fun d e1 e2 e3 e4 => ?_)
  have f4 := (f2.tr c1).tr e1
  refine w_get (k := 7) (n := n) (i := i) ((f4.1 0 7 1 (by omega)).trans h7) hi hn rfl ?_
  rw [f4.1 1 7 i (by omega), k7]
  refine w_appI e2 rfl (by omega) (by omega) (fun y y1 y2 y3 y4 => h y (f4.tr y1) y2 (fun q hq => ?_))
  unfold oN at hq
  by_cases q1 : q < dN id
  · rw [y3 q (by omega), e3 q (by omega), c3 q (by omega), b3 q q1, oT_1 q1]
    have := a4 q q1
    rw [Nat.zero_add] at this
    exact this
  · by_cases q2 : q = dN id
    · rw [q2, y3 _ (by omega), e3 _ (by omega), c3 _ (by omega), b4, oT_2]
    · by_cases q3 : q < dN id + 1 + dN l
      · obtain ⟨u, rfl⟩ : ∃ u, q = dN id + 1 + u := ⟨q - dN id - 1, by omega⟩
        rw [y3 _ (by omega), e3 _ (by omega), c4 u (by omega), oT_3 (by omega)]
      · by_cases q4 : q < dN id + 1 + dN l + 3
        · rw [y3 q (by omega)]
          obtain ⟨t1, t2, t3⟩ := @oT_4 id l w
          obtain ⟨g1, g2, g3⟩ := e4
          by_cases z0 : q = dN id + 1 + dN l
          · rw [z0, g1, t1]
          · by_cases z1 : q = dN id + 1 + dN l + 1
            · rw [z1, g2, t2]
            · rw [show q = dN id + 1 + dN l + 2 by omega, g3, t3]
        · obtain ⟨u, rfl⟩ : ∃ u, q = dN id + 1 + dN l + 3 + u := ⟨q - (dN id + 1 + dN l + 3), by omega⟩
          rw [y4 u (by omega), oT_5 (by omega)]
theorem w_textR {i id l w : Nat} {σ : Mem} {E : String → Mem → Prop} (hid : id < 1000) (hl : l ≤ 40) (hw : w ≤ 9) (hi : i < 8) (kl : rd σ 10 8 (54 + 3 * i + 1) = nI l) (kw : rd σ 10 8 (54 + 3 * i + 2) = nI w) (h14 : rd σ 15 0 14 = nI 0)
    {X : Mem → Prop} (h : ∀ τ : Mem, FL σ τ → rd τ 15 0 14 = nI (oN id l w) → (∀ q : Nat, q < oN id l w → rd τ 10 14 q = nI (oT id l w q)) → X τ) :
    wX13_number 11 (nI id) σ (fun (s7 : Mem) => wX13_puts 58 s7 (fun (s9 : Mem) => wX13_ofOrder (nI i) 1 s9 (fun (r10 : Int32) (s11 : Mem) => wX13_number 11 r10 s11 (fun (s13 : Mem) => wX13_puts 107 s13 (fun (s15 : Mem) => wX13_puts 109 s15 (fun (s17 : Mem) => wX13_puts 116 s17 (fun (s19 : Mem) => wX13_ofOrder (nI i) 2 s19 (fun (r20 : Int32) (s21 : Mem) => wX13_number 11 r20 s21 (fun (s23 : Mem) => X s23) E) E) E) E) E) E) E) E) E := by
  have d1 := dN_pos id
  have d2 := dN_pos l
  have d3 := dN_pos w
  refine w_number 11 id 0 σ _ (by omega) (by omega) h14 (by omega) (fun a a1 a2 a3 a4 => ?_)
  rw [Nat.zero_add] at a2
  refine w_putsC a2 (by omega) (fun b b1 b2 b3 b4 => ?_)
  have f2 := a1.tr b1
  refine w_ofOrder (i := i) (d := 1) hi (by decide) rfl rfl ?_
  rw [f2.1 10 8 _ (by omega) (by omega), kl]
  refine w_number 11 l _ b _ (by omega) (by omega) b2 (by omega) (fun c c1 c2 c3 c4 => ?_)
  refine w_putsC c2 (by omega) (fun d e1 e2 e3 e4 => ?_)
  refine w_putsC e2 (by omega) (fun f g1 g2 g3 g4 => ?_)
  refine w_putsC g2 (by omega) (fun k k1 k2 k3 k4 => ?_)
  have f4 := (((f2.tr c1).tr e1).tr g1).tr k1
  refine w_ofOrder (i := i) (d := 2) hi (by decide) rfl rfl ?_
  rw [f4.1 10 8 _ (by omega) (by omega), kw]
  refine w_number 11 w _ k _ (by omega) (by omega) k2 (by omega) (fun y y1 y2 y3 y4 => h y (f4.tr y1) (by rw [y2]; rfl) (fun q hq => ?_))
  unfold oN at hq
  by_cases q1 : q < dN id
  · rw [y3 q (by omega), k3 q (by omega), g3 q (by omega), e3 q (by omega), c3 q (by omega), b3 q q1, oT_1 q1]
    have := a4 q q1
    rw [Nat.zero_add] at this
    exact this
  · by_cases q2 : q = dN id
    · rw [q2, y3 _ (by omega), k3 _ (by omega), g3 _ (by omega), e3 _ (by omega), c3 _ (by omega), b4, oT_2]
      rfl
    · by_cases q3 : q < dN id + 1 + dN l
      · obtain ⟨u, rfl⟩ : ∃ u, q = dN id + 1 + u := ⟨q - dN id - 1, by omega⟩
        rw [y3 _ (by omega), k3 _ (by omega), g3 _ (by omega), e3 _ (by omega), c4 u (by omega), oT_3 (by omega)]
      · by_cases q4 : q < dN id + 1 + dN l + 3
        · rw [y3 q (by omega)]
          obtain ⟨t1, t2, t3⟩ := @oT_4 id l w
          by_cases z0 : q = dN id + 1 + dN l
          · rw [z0, k3 _ (by omega), g3 _ (by omega), e4, t1]
            rfl
          · by_cases z1 : q = dN id + 1 + dN l + 1
            · rw [z1, k3 _ (by omega), g4, t2]
              rfl
            · rw [show q = dN id + 1 + dN l + 2 by omega, k4, t3]
              rfl
        · obtain ⟨u, rfl⟩ : ∃ u, q = dN id + 1 + dN l + 3 + u := ⟨q - (dN id + 1 + dN l + 3), by omega⟩
          have := y4 u (by omega)
          rw [oT_5 (by omega)]
          exact this
theorem pC_49 {j : Nat} {σ : Mem} (I : Inv j σ) (hj : j < 512) (a1 : Int32) : wC_49 a1 σ (Inv (j + 1)) := by
  have I0 := I
  obtain ⟨t, nB, nO, nP, htj, F, S⟩ := I.st
  have hO := F.1.2.1
  have hP := F.1.2.2.1
  obtain ⟨r, hr2, hr⟩ := F.2.2.1
  obtain ⟨t', nT, nL, nC, nx, hjt, J⟩ := I0
  have W := J.2.2.2.2.2.2.1.1.wb
  unfold wC_49 wL_renderOrder wX12_renderOrder wX12_positionOfOrder wX13_renderOrder
  rcases fst_or (fun q => rd σ 10 8 (54 + 3 * q)) a1 nO with ⟨i, hi, e1, e2⟩ | hno
  rotate_left
  · refine w_find_no (k := 5) (n := nO) (f := fun q => rd σ 10 8 (54 + 3 * q)) (S.2.2.1 0 (by decide)) hO (fun q hq => (S.2.2.2.2.2.1 q hq).1) hno ?_
    refine ⟨fun q => absurd rfl q, fun _ => ⟨rfl, ?_⟩⟩
    refine w_order_no (n := nO) F.1.2.2.2.2.1 hO hno ⟨fun q => absurd q (by decide), fun _ => ?_⟩
    unfold wX13_renderOrder_16
    exact w_thr1 ⟨fun q => absurd q (by decide), fun _ => ⟨rfl, fun q => absurd q (by decide), I.to (kp7 σ 1)⟩⟩
  obtain ⟨⟨id, hid, hid2⟩, ⟨l, hl1, hl2, hl⟩, w, hw1, hw2, hw⟩ := F.2.2.2.2.2.2.1 i hi
  have ha1 : a1 = nI id := e1.symm.trans hid2
  have d1 := dN_pos id
  have d2 := dN_pos l
  have d3 := dN_pos w
  have hk40 := pcs_le (w := w) hl2
  refine w_find_at (k := 5) (n := nO) (f := fun q => rd σ 10 8 (54 + 3 * q)) (S.2.2.1 0 (by decide)) hO (fun q hq => (S.2.2.2.2.2.1 q hq).1) hi e1 e2 ?_
  refine ⟨fun _ => ?_, fun q => absurd q (nI_nm1 (by omega))⟩
  refine w_setLen0 W (fun z z1 z2 _ => ?_)
  rw [ha1]
  refine w_textO (n := nO) (i := i) (id := id) (l := l) (w := w) (by omega) hl2 hw2 hi hO ((z1.1 0 6 1 (by omega)).trans (S.2.2.1 1 (by decide))) ((z1.1 0 7 1 (by omega)).trans (S.2.2.1 2 (by decide))) (((z1.1 1 6 i (by omega)).trans (S.2.2.2.2.2.1 i hi).2.1).trans hl) (((z1.1 1 7 i (by omega)).trans (S.2.2.2.2.2.1 i hi).2.2.1).trans hw) z2 (fun τ t1 t2 t3 => ?_)
  have F1 := z1.tr t1
  have S1 : Same τ 0 nB nO nP (rd σ 10 8) := S.on fun f k' s hh => F1.1 f k' s (by unfold SIn at hh; omega)
  have hl' : rd σ 10 8 (54 + 3 * i + 1) = nI l := by
    rw [show 54 + 3 * i + 1 = 55 + 3 * i by omega]
    exact hl
  have hw' : rd σ 10 8 (54 + 3 * i + 2) = nI w := by
    rw [show 54 + 3 * i + 2 = 56 + 3 * i by omega]
    exact hw
  have bN : oN id l w ≤ 20 := by unfold oN; omega
  have gT : ∀ q : Nat, q < oN id l w + 1 → oT id l w q < 128 := fun q _ => oT_b id l w q
  -- the reference, up to its text
  have ref : ∀ (u : Mem) (v : Int64) (K : Int32 → Mem → Prop), u.2.2.1 = u.2.2.1 → (∀ f k s : Nat, ¬ (f = 13 ∨ f = 16) → rd u f k s = rd σ f k s) → (∀ y : Mem, (∀ f k s : Nat, ¬ (f = 10 ∧ k = 14) → ¬ (f = 15 ∧ k = 0 ∧ (s = 7 ∨ s = 14)) → rd y f k s = rd u f k s) → y.2 = (wrL u v).2 → rd y 15 0 7 = 0 → rd y 15 0 14 = nI (oN id l w) → (∀ q : Nat, q < oN id l w → rd y 10 14 q = nI (oT id l w q)) → wX13_mayBeSpun (nI i) y (fun (r24 : Int32) (s25 : Mem) => ((¬ r24 = 0 → K (rd s25 15 0 14) s25) ∧ (r24 = 0 → wX13_puts 33 s25 (fun (s27 : Mem) => K (rd s27 15 0 14) s27) (fun _ _ => False)))) (fun _ _ => False)) →
      wX13_order (nI id) (wrL u v) (fun r1 s2 => (0 ≤ r1 → wX13_renderOrder_16 K (fun _ _ => False) (nI id) r1 0 s2) ∧ (¬ 0 ≤ r1 → wX13_renderOrder_16 K (fun _ _ => False) (nI id) r1 1 s2)) (fun _ _ => False) := by
    intro u v K _ hu hK
    have e8 : ∀ s : Nat, rd u 10 8 s = rd σ 10 8 s := fun s => hu 10 8 s (by omega)
    refine w_order_at (n := nO) (i := i) ((e8 12).trans F.1.2.2.2.2.1) hO hi ((e8 _).trans hid2) (fun q hq => by show ¬ rd u 10 8 (54 + 3 * q) = nI id; rw [e8, ← ha1]; exact e2 q hq) ⟨fun _ => ?_, fun q => absurd (nI_pos' (by omega)) q⟩
    unfold wX13_renderOrder_16
    refine w_thr0 ⟨fun _ s5 h5 => ?_, fun q => absurd rfl q⟩
    have fr : ∀ f k s : Nat, ¬ (f = 15 ∧ k = 0 ∧ (s = 7 ∨ s = 14)) → rd s5 f k s = rd u f k s := fun f k s n => by rw [h5, rd_wr, if_neg (by omega), rd_wr, if_neg (by omega)]; rfl
    refine w_textR (i := i) (id := id) (l := l) (w := w) (by omega) hl2 hw2 (by omega) (by rw [fr 10 8 _ (by omega), e8]; exact hl') (by rw [fr 10 8 _ (by omega), e8]; exact hw') (by rw [h5, rd_wr, if_pos ⟨rfl, rfl, rfl⟩]; rfl) (fun y y1 y2 y3 => hK y (fun f k s n1 n2 => (y1.1 f k s n1 (by omega)).trans (fr f k s n2)) (by rw [y1.2, h5]; rfl) ?_ y2 y3)
    rw [y1.1 15 0 7 (by omega) (by omega), h5, rd_wr, if_neg (by omega), th_at]
  have may : ∀ (u y : Mem) (K : Int32 → Mem → Prop), (∀ f k s : Nat, ¬ (f = 13 ∨ f = 16) → rd u f k s = rd σ f k s) → (∀ f k s : Nat, ¬ (f = 10 ∧ k = 14) → ¬ (f = 15 ∧ k = 0 ∧ (s = 7 ∨ s = 14)) → rd y f k s = rd u f k s) → ∀ (Q : Int32 → Mem → Prop) (E : String → Mem → Prop), (¬ (l ≤ r ∧ nP + pcs l w ≤ 12) → Q 0 y) → (l ≤ r ∧ nP + pcs l w ≤ 12 → Q 1 y) → wX13_mayBeSpun (nI i) y Q E := by
    intro u y K hu hy Q E q0 q1
    have e8 : ∀ s : Nat, rd y 10 8 s = rd σ 10 8 s := fun s => (hy 10 8 s (by omega) (by omega)).trans (hu 10 8 s (by omega))
    exact w_mayBe (nP := nP) (i := i) (by omega) hP rfl ((e8 _).trans hl') ((e8 _).trans hw') ((e8 1).trans hr) ((e8 13).trans F.1.2.2.2.2.2) hl2 hw2 hr2 (fun c => q0 (by omega)) (fun _ c => q0 (by omega)) (fun c c2 => q1 ⟨c, c2⟩)
  have Fu : ∀ u : Mem, FX 1 σ u → ∀ f k s : Nat, ¬ (f = 13 ∨ f = 16) → rd u f k s = rd σ f k s := fun u hu f k s n => hu.1 f k s (by omega)
  -- it cannot be spun
  have bad : ¬ (l ≤ r ∧ nP + pcs l w ≤ 12) → wJ4_append_cf468 1 33 τ (fun (s24 : Mem) => wJ4_length_8abf5 1 s24 (fun (r25 : Int32) (s26 : Mem) => s26 = s24 ∧ wX13_order (nI id) (wrL s24 r25.toInt64) (fun r1 s2 => (0 ≤ r1 → wX13_renderOrder_16 (fun bb s1 => wX13_thrown s1 (fun t s2 => t = 0 ∧ ((0 : Int32) = 0 → rdL s2 = bb.toInt64) ∧ Inv (j + 1) s2) (fun _ _ => False)) (fun _ _ => False) (nI id) r1 0 s2) ∧ (¬ 0 ≤ r1 → wX13_renderOrder_16 (fun bb s1 => wX13_thrown s1 (fun t s2 => t = 0 ∧ ((0 : Int32) = 0 → rdL s2 = bb.toInt64) ∧ Inv (j + 1) s2) (fun _ _ => False)) (fun _ _ => False) (nI id) r1 1 s2)) (fun _ _ => False)) (fun _ _ => False)) (fun _ _ => False) := by
    intro hb
    refine w_appC (c := 33) t2 rfl (by decide) (by omega) (fun u u1 u2 u3 u4 => ?_)
    refine w_len u2 ⟨rfl, ?_⟩
    have Fu1 := F1.tr u1
    refine ref u _ _ rfl (Fu u Fu1) (fun y y1 y2 y7 y3 y4 => may u y (fun _ _ => True) (Fu u Fu1) y1 _ _ (fun _ => ⟨fun q => absurd rfl q, fun _ => ?_⟩) (fun c => absurd c hb))
    refine w_putsC y3 (by omega) (fun x x1 x2 x3 x4 => ?_)
    have x7 : rd x 15 0 7 = 0 := (x1.1 15 0 7 (by omega) (by omega)).trans y7
    refine ⟨x7, fun _ => ?_, ?_⟩
    · rw [x2]
      show x.2.2.2.1 0 = _
      rw [x1.2, y2]
      rfl
    · refine inv_line I (N := oN id l w + 1) (g := oT id l w) (by omega) Fu1 u2 (fun q hq => ?_) gT (fun f k s n1 n2 => (x1.1 f k s n1 (by omega)).trans (y1 f k s n1 n2)) (by rw [x1.2, y2]; rfl) x2 (fun q hq => ?_)
      · by_cases c : q = oN id l w
        · rw [c, u4, oT_6]
        · rw [u3 q (by omega), t3 q (by omega)]
      · by_cases c : q = oN id l w
        · rw [c, x4, oT_6]
          rfl
        · rw [x3 q (by omega), y4 q (by omega)]
  refine w_refSpin S1 hO hP hi rfl hl hw hr hl2 hw2 hr2 (fun c => ⟨fun q => absurd q (by decide), fun _ => bad (fun z => c z.1)⟩) (fun _ c => ⟨fun q => absurd q (by decide), fun _ => bad (fun z => c z.2)⟩) (fun c c2 => ⟨fun _ => ?_, fun q => absurd rfl q⟩)
  refine w_len t2 ⟨rfl, ?_⟩
  refine ref τ _ _ rfl (Fu τ F1) (fun y y1 y2 y7 y3 y4 => may τ y (fun _ _ => True) (Fu τ F1) y1 _ _ (fun q => absurd ⟨c, c2⟩ q) (fun _ => ⟨fun _ => ?_, fun q => absurd q (by decide)⟩))
  refine ⟨y7, fun _ => ?_, ?_⟩
  · rw [y3]
    show y.2.2.2.1 0 = _
    rw [y2]
    rfl
  · exact inv_line I (N := oN id l w) (g := oT id l w) (by omega) F1 t2 t3 (fun q hq => oT_b id l w q) y1 (by rw [y2]; rfl) y3 y4
