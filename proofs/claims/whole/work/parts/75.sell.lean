/-! A PIECE SOLD -/
theorem sumN_cg {p p' : Nat → Nat} {n : Nat} (h : ∀ q : Nat, q < n → p q = p' q) : sumN p n = sumN p' n := by
  induction n with
  | zero => rfl
  | succ n ih =>
    show sumN p n + p n = sumN p' n + p' n
    rw [ih fun q hq => h q (by omega), h n (by omega)]
theorem sumN_rm (p : Nat → Nat) (i n : Nat) (hi : i ≤ n) : sumN (fun q => p (rm i q)) n + p i = sumN p (n + 1) := by
  induction n with
  | zero =>
    obtain rfl : i = 0 := by omega
    rfl
  | succ n ih =>
    show sumN (fun q => p (rm i q)) n + p (rm i n) + p i = sumN p (n + 1) + p (n + 1)
    by_cases c : i ≤ n
    · have := ih c
      rw [show rm i n = n + 1 by unfold rm; rw [if_neg (by omega)]]
      omega
    · obtain rfl : i = n + 1 := by omega
      rw [show rm (n + 1) n = n by unfold rm; rw [if_pos (by omega)]]
      have : sumN (fun q => p (rm (n + 1) q)) n = sumN p n := sumN_cg fun q hq => by
        show p (rm (n + 1) q) = p q
        unfold rm
        rw [if_pos (by omega)]
      rw [this]
      show sumN p n + p n + p (n + 1) = sumN p n + p n + p (n + 1)
      rfl
theorem ix_pie (i : Nat) : 78 + nI i = nI (78 + i) := by
  rw [show (78 : Int32) = nI 78 from rfl, nI_add]
theorem w_isPiece {n : Nat} {x : Int32} {σ : Mem} {Q : Int32 → Mem → Prop} {E : String → Mem → Prop} (hn : n < 2 ^ 31) (hm : rd σ 10 8 13 = nI n) (h1 : ∀ i : Nat, i < n → x = nI i → Q 1 σ) (h2 : x < 0 ∨ nI n ≤ x → Q 0 σ) : wX13_isPiece x σ Q E := by
  unfold wX13_isPiece
  exact w_isIn (n := n) hn hm (fun i hi hx => ⟨Or.inr rfl, h1 i hi hx⟩) (fun hb => ⟨Or.inl rfl, h2 hb⟩)
/-- what a piece brings -/
def wth (l : Int32) : Int32 := if l < 10 then l * 2 else l * 5
def r_sell (a : Nat → Int32) (i n : Nat) : Nat → Int32 := up (clo (up (up (up a 0 (a 0 + wth (a (78 + i)))) 5 (a 5 + wth (a (78 + i)))) 8 (a 8 + a (78 + i))) (78 + i) 1 90) 13 (nI n)
theorem w_worth {i : Nat} {x : Int32} {σ : Mem} {Q : Int32 → Mem → Prop} {E : String → Mem → Prop} (hi : i < 12) (hx : x = nI i) (h : Q (wth (rd σ 10 8 (78 + i))) σ) : wX13_worth x σ Q E := by
  subst hx
  unfold wX13_worth
  refine ⟨(piece_ix hi).1, fun v hv => ?_⟩
  rw [(piece_ix hi).2] at hv
  subst hv
  unfold wth at h
  refine ⟨fun q => ?_, fun q => ?_⟩
  · rw [if_pos q] at h
    rw [Int32.mul_comm]
    exact h
  · rw [if_neg q] at h
    rw [Int32.mul_comm]
    exact h
theorem w_worthAt {i n : Nat} {x : Int32} {σ : Mem} {Q : Int32 → Mem → Prop} {E : String → Mem → Prop} (hk : rd σ 0 9 1 = nI n) (hi : i < n) (hn : n ≤ 12) (hx : x = nI i) (h : Q (wth (rd σ 1 9 i)) σ) : wX10_worthAt 0 x σ Q E := by
  refine w_get (k := 9) hk hi hn hx ?_
  unfold wth at h
  refine ⟨fun q => ?_, fun q => ?_⟩
  · rw [if_pos q] at h
    exact h
  · rw [if_neg q] at h
    exact h
theorem sell_o {a : Nat → Int32} {i n s : Nat} (hi : i < 12) (h : s < 78) (h0 : s ≠ 0) (h5 : s ≠ 5) (h8 : s ≠ 8) (h13 : s ≠ 13) : r_sell a i n s = a s := by
  unfold r_sell
  rw [up_ne h13, clo_lt (by omega) (by omega), up_ne h8, up_ne h5, up_ne h0]
theorem sell_q {a : Nat → Int32} {i n q : Nat} (hi : i < n + 1) (hn : n + 1 ≤ 12) (hq : q < n) : r_sell a i n (78 + q) = a (78 + rm i q) := by
  unfold r_sell rm
  rw [up_ne (by omega)]
  by_cases c : q < i
  · rw [if_pos c, clo_lt (by omega) (by omega), up_ne (by omega), up_ne (by omega), up_ne (by omega)]
  · rw [if_neg c, clo_in (by omega) (by omega), up_ne (by omega), up_ne (by omega), up_ne (by omega), Nat.add_assoc]
theorem sell_0 {a : Nat → Int32} {i n : Nat} (hi : i < 12) : r_sell a i n 0 = a 0 + wth (a (78 + i)) := by
  unfold r_sell
  rw [up_ne (by omega), clo_lt (by omega) (by omega), up_ne (by omega), up_ne (by omega), up_eq]
theorem sell_5 {a : Nat → Int32} {i n : Nat} (hi : i < 12) : r_sell a i n 5 = a 5 + wth (a (78 + i)) := by
  unfold r_sell
  rw [up_ne (by omega), clo_lt (by omega) (by omega), up_ne (by omega), up_eq]
theorem sell_8 {a : Nat → Int32} {i n : Nat} (hi : i < 12) : r_sell a i n 8 = a 8 + a (78 + i) := by
  unfold r_sell
  rw [up_ne (by omega), clo_lt (by omega) (by omega), up_eq]
theorem op_8 {t nB nO nP : Nat} {a : Nat → Int32} (x1 : Int32) (F : Fits t nB nO nP a) : Ch 8 x1 0 0 [(5, 1)] (wX13_sells x1) t nB nO nP a := by
  have hB := F.1.1
  have hO := F.1.2.1
  have hP := F.1.2.2.1
  have e13 : a 13 = nI nP := F.1.2.2.2.2.2
  have cs : (x1 < 0 ∨ nI nP ≤ x1) ∨ ∃ i : Nat, i < nP ∧ x1 = nI i := by
    rcases pk_ix x1 (show nP < 2 ^ 31 by omega) with q | q | q
    · exact Or.inl (Or.inl q)
    · exact Or.inl (Or.inr q)
    · exact Or.inr q
  rcases cs with hb | ⟨i, hi, hx⟩
  · refine Or.inl ⟨5, 1, by simp, fun σ Q E S _ h => ?_, fun σ Q E ha h => ?_⟩
    · exact ⟨fun q => absurd q (by decide), fun q => absurd q (by decide), fun q => absurd q (by decide), fun q => absurd q (by decide), fun q => absurd q (by decide), fun q => absurd q (by decide), fun q => absurd q (by decide), fun q => absurd q (by decide), fun _ => w_has (k := 9) (n := nP) (by omega) S.2.2.2.1 (fun i hi ha => absurd hb (no_ix hi (by omega) ha)) (fun _ => ⟨fun _ => h σ (FrS.rf σ), fun q => absurd rfl q⟩)⟩
    · refine w_isPiece (n := nP) (by omega) (by rw [ha]; exact e13) (fun i hi hx => absurd hb (no_ix hi (by omega) hx)) (fun _ => ⟨fun q => absurd rfl q, fun _ => ?_⟩)
      exact w_thr1 ⟨fun q => absurd q (by decide), fun _ => thr_end σ (FrR.rf σ) ha h⟩
  obtain ⟨n, rfl⟩ : ∃ n, nP = n + 1 := ⟨nP - 1, by omega⟩
  have o : ∀ s : Nat, s < 78 → s ≠ 0 → s ≠ 5 → s ≠ 8 → s ≠ 13 → r_sell a i n s = a s := fun s h h0 h5 h8 h13 => sell_o (by omega) h h0 h5 h8 h13
  refine Or.inr ⟨nB, nO, n, r_sell a i n, wth (a (78 + i)), ?_, fun σ Q E S _ h => ?_, fun σ Q E S _ h => ?_, fun σ Q E ha h => ?_⟩
  · obtain ⟨⟨f1, f2, f3, f4, f5, f6⟩, g1, g2, g3, g4, g5, g6, ⟨p, p1, p2, p3⟩, g8⟩ := F.mono (Nat.le_succ t)
    refine ⟨⟨f1, f2, by omega, ?_, ?_, up_eq _ _ _⟩, ?_, ?_, ?_, ?_, fun q hq => ?_, fun q hq => ?_, ⟨fun q => p (rm i q), fun q hq => ?_, ?_, ?_⟩, ?_⟩
    · rw [o 11 (by omega) (by omega) (by omega) (by omega) (by omega)]; exact f4
    · rw [o 12 (by omega) (by omega) (by omega) (by omega) (by omega)]; exact f5
    · rw [o 3 (by omega) (by omega) (by omega) (by omega) (by omega)]; exact g1
    · rw [o 1 (by omega) (by omega) (by omega) (by omega) (by omega)]; exact g2
    · rw [o 9 (by omega) (by omega) (by omega) (by omega) (by omega)]; exact g3
    · rw [o 10 (by omega) (by omega) (by omega) (by omega) (by omega)]; exact g4
    · rw [o (14 + 4 * q) (by omega) (by omega) (by omega) (by omega) (by omega), o (15 + 4 * q) (by omega) (by omega) (by omega) (by omega) (by omega), o (16 + 4 * q) (by omega) (by omega) (by omega) (by omega) (by omega), o (17 + 4 * q) (by omega) (by omega) (by omega) (by omega) (by omega)]
      exact g5 q hq
    · rw [o (54 + 3 * q) (by omega) (by omega) (by omega) (by omega) (by omega), o (55 + 3 * q) (by omega) (by omega) (by omega) (by omega) (by omega), o (56 + 3 * q) (by omega) (by omega) (by omega) (by omega) (by omega)]
      exact g6 q hq
    · rw [sell_q hi f3 hq]
      exact p1 _ (rm_lt hi hq)
    · have := sumN_rm p i n (by omega)
      omega
    · have e := sumN_rm p i n (by omega)
      rw [o 6 (by omega) (by omega) (by omega) (by omega) (by omega), o 7 (by omega) (by omega) (by omega) (by omega) (by omega), sell_8 (by omega), (p1 i hi).2]
      rw [← e, ← nI_add] at p3
      have e2 : a 6 - (a 8 + nI (p i)) - a 7 = a 6 - a 8 - a 7 - nI (p i) := by grind
      rw [e2, p3]
      grind
    · rw [sell_0 (by omega), sell_5 (by omega), o 4 (by omega) (by omega) (by omega) (by omega) (by omega), g8, Int32.add_assoc]
  · exact ⟨fun q => absurd q (by decide), fun q => absurd q (by decide), fun q => absurd q (by decide), fun q => absurd q (by decide), fun q => absurd q (by decide), fun q => absurd q (by decide), fun q => absurd q (by decide), fun q => absurd q (by decide), fun _ => w_has (k := 9) (n := n + 1) (by omega) S.2.2.2.1 (fun _ _ _ => ⟨fun q => absurd q (by decide), fun _ => h σ (FrS.rf σ)⟩) (fun hb => absurd hb (no_ix hi (by omega) hx))⟩
  · obtain ⟨z6, z3, z5, z4, z7, z8, z9, z10, z11, y2, y3⟩ := S.1
    have ep : rd σ 1 9 i = a (78 + i) := S.2.2.2.2.2.2 i hi
    refine ⟨fun q => absurd q (by decide), fun q => absurd q (by decide), fun q => absurd q (by decide), fun q => absurd q (by decide), fun q => absurd q (by decide), fun q => absurd q (by decide), fun q => absurd q (by decide), fun q => absurd q (by decide), fun _ => w_worthAt (n := n + 1) S.2.2.2.1 hi hP hx ?_⟩
    refine w_get (k := 9) (n := n + 1) S.2.2.2.1 hi hP hx ?_
    intro s5 h5 s6 h6 s7 h7
    rw [ep] at h5 h6 h7
    rw [hx]
    have g : ∀ f k s : Nat, ¬ (f = 4 ∧ k = 0 ∧ (s = 11 ∨ s = 6 ∨ s = 8)) → rd s7 f k s = rd σ f k s := fun f k s n => by rw [h7, rd_wr, if_neg (by omega), h6, rd_wr, if_neg (by omega), h5, rd_wr, if_neg (by omega)]
    refine w_removeAt (k := 9) (n := n) (p := i) ((g 0 9 1 (by omega)).trans S.2.2.2.1) hP hi (fun τ u1 u2 u3 u4 => ?_)
    have gt : ∀ f k s : Nat, ¬ (f ≤ 1 ∧ k = 9) → ¬ (f = 4 ∧ k = 0 ∧ (s = 11 ∨ s = 6 ∨ s = 8)) → rd τ f k s = rd σ f k s := fun f k s m n => (u1 f k s m).trans (g f k s n)
    show Q (wth (rd σ 1 9 i)) τ
    rw [ep]
    refine h τ ⟨fun f k s m m2 => gt f k s (by unfold SIn at m; omega) (by unfold SIn at m; omega), by rw [u2, h7, h6, h5]; rfl⟩ (Same.mk0 ⟨?_, ?_, ?_, ?_, ?_, ?_, ?_, ?_, ?_, ?_, ?_⟩ (fun j hj => ⟨?_, fun q hq => ?_⟩) (fun j hj => ⟨?_, fun q hq => ?_⟩) ⟨u3, fun q hq => ?_⟩)
    · rw [u1 4 0 6 (by omega), h7, rd_wr, if_neg (by omega), h6, rd_wr, if_pos ⟨rfl, rfl, rfl⟩, h5, rd_wr, if_neg (by omega), z6, sell_0 (by omega)]
    · rw [gt 4 0 3 (by omega) (by omega), o 1 (by omega) (by omega) (by omega) (by omega) (by omega)]; exact z3
    · rw [gt 4 0 5 (by omega) (by omega), o 2 (by omega) (by omega) (by omega) (by omega) (by omega)]; exact z5
    · rw [gt 4 0 4 (by omega) (by omega), o 3 (by omega) (by omega) (by omega) (by omega) (by omega)]; exact z4
    · rw [gt 4 0 7 (by omega) (by omega), o 4 (by omega) (by omega) (by omega) (by omega) (by omega)]; exact z7
    · rw [u1 4 0 8 (by omega), h7, rd_wr, if_pos ⟨rfl, rfl, rfl⟩, h6, rd_wr, if_neg (by omega), h5, rd_wr, if_neg (by omega), z8, sell_5 (by omega)]
    · rw [gt 4 0 9 (by omega) (by omega), o 6 (by omega) (by omega) (by omega) (by omega) (by omega)]; exact z9
    · rw [gt 4 0 10 (by omega) (by omega), o 7 (by omega) (by omega) (by omega) (by omega) (by omega)]; exact z10
    · rw [u1 4 0 11 (by omega), h7, rd_wr, if_neg (by omega), h6, rd_wr, if_neg (by omega), h5, rd_wr, if_pos ⟨rfl, rfl, rfl⟩, z11, sell_8 (by omega)]
    · rw [gt 2 0 5 (by omega) (by omega), o 9 (by omega) (by omega) (by omega) (by omega) (by omega)]; exact y2
    · rw [gt 3 0 4 (by omega) (by omega), o 10 (by omega) (by omega) (by omega) (by omega) (by omega)]; exact y3
    · exact (gt 0 _ 1 (by omega) (by omega)).trans (S.rB j hj).1
    · exact (gt 1 _ q (by omega) (by omega)).trans (((S.rB j hj).2 q hq).trans (gB_cg (fun s _ _ => (o s (by omega) (by omega) (by omega) (by omega) (by omega)).symm) (by omega)))
    · exact (gt 0 _ 1 (by omega) (by omega)).trans (S.rO j hj).1
    · exact (gt 1 _ q (by omega) (by omega)).trans (((S.rO j hj).2 q hq).trans (gO_cg (fun s _ _ => (o s (by omega) (by omega) (by omega) (by omega) (by omega)).symm) (by omega)))
    · rw [u4 q hq, g 1 9 _ (by omega), sell_q hi hP hq]
      exact S.2.2.2.2.2.2 _ (rm_lt hi hq)
  · subst ha
    refine w_isPiece (n := n + 1) (by omega) e13 (fun _ _ _ => ⟨fun _ => ?_, fun q => absurd q (by decide)⟩) (fun hb => absurd hb (no_ix hi (by omega) hx))
    refine w_thr0 ⟨fun _ => ?_, fun q => absurd rfl q⟩
    refine w_worth (i := i) (by omega) hx ?_
    rw [row_7]
    intro s7 h7 s8 h8
    rw [hx]
    refine ⟨(piece_ix (show i < 12 by omega)).1, fun s9 h9 => ?_⟩
    rw [(piece_ix (show i < 12 by omega)).2] at h9
    have er : rd s9 10 8 = up (up (up (rd σ 10 8) 0 (rd σ 10 8 0 + wth (rd σ 10 8 (78 + i)))) 5 (rd σ 10 8 5 + wth (rd σ 10 8 (78 + i)))) 8 (rd σ 10 8 8 + rd σ 10 8 (78 + i)) := by
      rw [h9, row_8, h8, row_8, h7, row_8, row_7]
      repeat (first | rw [up_ne (by omega)] | rw [up_eq])
    refine w_closes (F := 78 + i) (M := 1) (Z := 90) (ix_pie i) rfl rfl (by omega) (by omega) (by omega) (fun τ u1 u2 u3 => ?_)
    intro s12 h12
    have k13 : rd τ 10 8 13 = nI (n + 1) := by rw [u3, clo_lt (by omega) (by omega), er, up_ne (by omega), up_ne (by omega), up_ne (by omega), e13]
    rw [k13, nI_pred] at h12
    refine h s12 ?_ ?_ ?_
    · rw [h12]
      refine FrR.w8 (FrR.tr ?_ u1) _ _
      rw [h9, h8, h7]
      exact ((((FrR.rf σ).w7 0).w8 _ _).w8 _ _).w8 _ _
    · rw [h12, row_8, u3, er]
      rfl
    · rw [h12, th_8, u2 15 0 7 (by omega), h9, th_8, h8, th_8, h7, th_8, th_at]
