def wX13_shortestTime   (s0 : Mem) (Q : Int32 → Mem → Prop) (E : String → Mem → Prop) : Prop := ∀ s1 : Mem, s1 = wr s0 15 0 7 0 → ∀ s2 : Mem, s2 = wr s1 15 0 11 999999 → wX13_gives 10 0 0 s2 (fun (s4 : Mem) => Q (rd s4 15 0 11) s4) E
set_option maxRecDepth 20000 in
set_option maxHeartbeats 4000000 in
theorem oX13_shortestTime {l : Launch} {x : Ctx} (hl : l.stackTraces = false)     (s0 : Mem) (Q : Int32 → Mem → Prop) (E : String → Mem → Prop) (h : wX13_shortestTime   s0 Q E) : MetG l x yX13_shortestTime cX13_shortestTime 1 (some .int) 13 296 0 0 [.ref (xad x 15 0)] s0 (RI Q) E := by
  refine MetG.of hl (by decide) (Nat.le_of_ble_eq_true rfl) [some (.ref (xad x 15 0))] rfl (fun K B hx _ => ?_)
  subst hx
  unfold wX13_shortestTime at h
  refine g_aload_n (np := 1) B.1 dX13_shortestTime_0 rfl rfl ?_
  refine g_iconst (np := 2) (v := 0) B.1 dX13_shortestTime_1 (by decide) rfl ?_
  refine gp_YModel_44_15 (np := 5) B.1 dX13_shortestTime_2 rfl ?_
  refine g_mem (fun s1 es1 => ?_)
  replace h := h s1 es1
  refine g_aload_n (np := 6) B.1 dX13_shortestTime_5 rfl rfl ?_
  refine g_ldc (np := 8) (v := 999999) B.1 b_1944 dX13_shortestTime_6 rfl ?_
  refine gp_YModel_160_15 (np := 11) B.1 dX13_shortestTime_8 rfl ?_
  refine g_mem (fun s2 es2 => ?_)
  replace h := h s2 es2
  refine g_aload_n (np := 12) B.1 dX13_shortestTime_11 rfl rfl ?_
  refine g_iconst (np := 13) (v := 0) B.1 dX13_shortestTime_12 (by decide) rfl ?_
  refine g_iconst (np := 14) (v := 0) B.1 dX13_shortestTime_13 (by decide) rfl ?_
  refine gc_YModel_163 (np := 17) B   (oX13_gives B.1.tr 10 0 0 _ _ _ h) (Nat.le_of_ble_eq_true rfl) (Nat.le_of_ble_eq_true rfl) (Nat.le_of_ble_eq_true rfl) (Nat.le_of_ble_eq_true rfl) (Nat.le_of_ble_eq_true rfl) dX13_shortestTime_14 rfl (fun s4 h => ?_)
  refine g_aload_n (np := 18) B.1 dX13_shortestTime_17 rfl rfl ?_
  refine gf_YModel_160_15 (np := 21) B.1 dX13_shortestTime_18 rfl ?_
  exact g_iret B (ty := .int) rfl rfl (Nat.le_of_ble_eq_true rfl) (Nat.le_of_ble_eq_true rfl) dX13_shortestTime_21 ⟨_, rfl, h⟩
def wX13_shortestTimeBySearch   (s0 : Mem) (Q : Int32 → Mem → Prop) (E : String → Mem → Prop) : Prop := wX13_shortestTime   s0 (fun (r1 : Int32) (s2 : Mem) => Q r1 s2) E
set_option maxRecDepth 20000 in
set_option maxHeartbeats 4000000 in
theorem oX13_shortestTimeBySearch {l : Launch} {x : Ctx} (hl : l.stackTraces = false)     (s0 : Mem) (Q : Int32 → Mem → Prop) (E : String → Mem → Prop) (h : wX13_shortestTimeBySearch   s0 Q E) : MetG l x yX13_shortestTimeBySearch cX13_shortestTimeBySearch 1 (some .int) 14 316 0 0 [.ref (xad x 15 0)] s0 (RI Q) E := by
  refine MetG.of hl (by decide) (Nat.le_of_ble_eq_true rfl) [some (.ref (xad x 15 0))] rfl (fun K B hx _ => ?_)
  subst hx
  unfold wX13_shortestTimeBySearch at h
  refine g_aload_n (np := 1) B.1 dX13_shortestTimeBySearch_0 rfl rfl ?_
  refine gc_YModel_167 (np := 4) B   (oX13_shortestTime B.1.tr     _ _ _ h) (Nat.le_of_ble_eq_true rfl) (Nat.le_of_ble_eq_true rfl) (Nat.le_of_ble_eq_true rfl) (Nat.le_of_ble_eq_true rfl) (Nat.le_of_ble_eq_true rfl) dX13_shortestTimeBySearch_1 rfl (fun r1 s2 h => ?_)
  exact g_iret B (ty := .int) rfl rfl (Nat.le_of_ble_eq_true rfl) (Nat.le_of_ble_eq_true rfl) dX13_shortestTimeBySearch_4 ⟨_, rfl, h⟩
def wX13_pieceCount   (s0 : Mem) (Q : Int32 → Mem → Prop) (E : String → Mem → Prop) : Prop := ∀ s1 : Mem, s1 = wr s0 15 0 7 0 → Q (rd s1 10 8 13) s1
set_option maxRecDepth 20000 in
set_option maxHeartbeats 4000000 in
theorem oX13_pieceCount {l : Launch} {x : Ctx} (hl : l.stackTraces = false)     (s0 : Mem) (Q : Int32 → Mem → Prop) (E : String → Mem → Prop) (h : wX13_pieceCount   s0 Q E) : MetG l x yX13_pieceCount cX13_pieceCount 1 (some .int) 0 0 0 0 [.ref (xad x 15 0)] s0 (RI Q) E := by
  refine MetG.of hl (by decide) (Nat.le_of_ble_eq_true rfl) [some (.ref (xad x 15 0))] rfl (fun K B hx _ => ?_)
  subst hx
  unfold wX13_pieceCount at h
  refine g_aload_n (np := 1) B.1 dX13_pieceCount_0 rfl rfl ?_
  refine g_iconst (np := 2) (v := 0) B.1 dX13_pieceCount_1 (by decide) rfl ?_
  refine gp_YModel_44_15 (np := 5) B.1 dX13_pieceCount_2 rfl ?_
  refine g_mem (fun s1 es1 => ?_)
  replace h := h s1 es1
  refine g_aload_n (np := 6) B.1 dX13_pieceCount_5 rfl rfl ?_
  refine gf_YModel_9_15 (np := 9) B.1 dX13_pieceCount_6 rfl ?_
  refine g_bipush (np := 11) (v := 13) B.1 dX13_pieceCount_9 (by decide) rfl ?_
  refine g_ialdL (np := 12) B.1 10 8 (by decide) rfl rfl 13 (by decide) (vpl (by decide)) dX13_pieceCount_11 rfl ?_
  exact g_iret B (ty := .int) rfl rfl (Nat.le_of_ble_eq_true rfl) (Nat.le_of_ble_eq_true rfl) dX13_pieceCount_12 ⟨_, rfl, h⟩
def wX13_pieceLength  (a1 : Int32) (s0 : Mem) (Q : Int32 → Mem → Prop) (E : String → Mem → Prop) : Prop := wX13_isPiece  a1 s0 (fun (r1 : Int32) (s2 : Mem) => ((¬ r1 = 0 → wX13_isThrown  0 1 s2 (fun (r3 : Int32) (s4 : Mem) => ((r3 = 0 → vp_in (78 + a1) (iaLen 8) ∧ Q (rd s4 10 8 (78 + a1).toNatClampNeg) s4) ∧ (¬ r3 = 0 → Q 0 s4))) E) ∧ (r1 = 0 → wX13_isThrown  1 1 s2 (fun (r5 : Int32) (s6 : Mem) => ((r5 = 0 → vp_in (78 + a1) (iaLen 8) ∧ Q (rd s6 10 8 (78 + a1).toNatClampNeg) s6) ∧ (¬ r5 = 0 → Q 0 s6))) E))) E
set_option maxRecDepth 20000 in
set_option maxHeartbeats 4000000 in
theorem oX13_pieceLength {l : Launch} {x : Ctx} (hl : l.stackTraces = false)   (a1 : Int32)  (s0 : Mem) (Q : Int32 → Mem → Prop) (E : String → Mem → Prop) (h : wX13_pieceLength  a1 s0 Q E) : MetG l x yX13_pieceLength cX13_pieceLength 2 (some .int) 2 43 0 0 [.ref (xad x 15 0), .int a1] s0 (RI Q) E := by
  refine MetG.of hl (by decide) (Nat.le_of_ble_eq_true rfl) [some (.ref (xad x 15 0)), some (.int a1)] rfl (fun K B hx _ => ?_)
  subst hx
  unfold wX13_pieceLength at h
  refine g_aload_n (np := 1) B.1 dX13_pieceLength_0 rfl rfl ?_
  refine g_aload_n (np := 2) B.1 dX13_pieceLength_1 rfl rfl ?_
  refine g_iload_n (np := 3) B.1 dX13_pieceLength_2 rfl rfl ?_
  refine gc_YModel_118 (np := 6) B   (oX13_isPiece B.1.tr   a1  _ _ _ h) (Nat.le_of_ble_eq_true rfl) (Nat.le_of_ble_eq_true rfl) (Nat.le_of_ble_eq_true rfl) (Nat.le_of_ble_eq_true rfl) (Nat.le_of_ble_eq_true rfl) dX13_pieceLength_3 rfl (fun r1 s2 h => ?_)
  refine g_if_ne (np := 9) (tgt := 13) B.1 dX13_pieceLength_6 (by decide) rfl (fun q => ?_) (fun q => ?_)
  · replace h := h.1 q
    refine g_iconst (np := 14) (v := 0) B.1 dX13_pieceLength_13 (by decide) rfl ?_
    refine g_iconst (np := 15) (v := 1) B.1 dX13_pieceLength_14 (by decide) rfl ?_
    refine gc_YModel_65 (np := 18) B   (oX13_isThrown B.1.tr   0 1  _ _ _ h) (Nat.le_of_ble_eq_true rfl) (Nat.le_of_ble_eq_true rfl) (Nat.le_of_ble_eq_true rfl) (Nat.le_of_ble_eq_true rfl) (Nat.le_of_ble_eq_true rfl) dX13_pieceLength_15 rfl (fun r3 s4 h => ?_)
    refine g_if_eq (np := 21) (tgt := 25) B.1 dX13_pieceLength_18 (by decide) rfl (fun q => ?_) (fun q => ?_)
    · replace h := h.1 q
      refine g_aload_n (np := 26) B.1 dX13_pieceLength_25 rfl rfl ?_
      refine gf_YModel_9_15 (np := 29) B.1 dX13_pieceLength_26 rfl ?_
      refine g_bipush (np := 31) (v := 78) B.1 dX13_pieceLength_29 (by decide) rfl ?_
      refine g_iload_n (np := 32) B.1 dX13_pieceLength_31 rfl rfl ?_
      refine g_iadd (np := 33) B.1 dX13_pieceLength_32 rfl ?_
      refine g_iald (np := 34) B.1 10 8 (by decide) rfl rfl h.1 dX13_pieceLength_33 rfl ?_
      replace h := h.2
      exact g_iret B (ty := .int) rfl rfl (Nat.le_of_ble_eq_true rfl) (Nat.le_of_ble_eq_true rfl) dX13_pieceLength_34 ⟨_, rfl, h⟩
    · replace h := h.2 q
      refine g_iconst (np := 22) (v := 0) B.1 dX13_pieceLength_21 (by decide) rfl ?_
      refine g_goto (tgt := 34) B.1 dX13_pieceLength_22 (by decide) ?_
      exact g_iret B (ty := .int) rfl rfl (Nat.le_of_ble_eq_true rfl) (Nat.le_of_ble_eq_true rfl) dX13_pieceLength_34 ⟨_, rfl, h⟩
  · replace h := h.2 q
    refine g_iconst (np := 10) (v := 1) B.1 dX13_pieceLength_9 (by decide) rfl ?_
    refine g_goto (tgt := 14) B.1 dX13_pieceLength_10 (by decide) ?_
    refine g_iconst (np := 15) (v := 1) B.1 dX13_pieceLength_14 (by decide) rfl ?_
    refine gc_YModel_65 (np := 18) B   (oX13_isThrown B.1.tr   1 1  _ _ _ h) (Nat.le_of_ble_eq_true rfl) (Nat.le_of_ble_eq_true rfl) (Nat.le_of_ble_eq_true rfl) (Nat.le_of_ble_eq_true rfl) (Nat.le_of_ble_eq_true rfl) dX13_pieceLength_15 rfl (fun r5 s6 h => ?_)
    refine g_if_eq (np := 21) (tgt := 25) B.1 dX13_pieceLength_18 (by decide) rfl (fun q => ?_) (fun q => ?_)
    · replace h := h.1 q
      refine g_aload_n (np := 26) B.1 dX13_pieceLength_25 rfl rfl ?_
      refine gf_YModel_9_15 (np := 29) B.1 dX13_pieceLength_26 rfl ?_
      refine g_bipush (np := 31) (v := 78) B.1 dX13_pieceLength_29 (by decide) rfl ?_
      refine g_iload_n (np := 32) B.1 dX13_pieceLength_31 rfl rfl ?_
      refine g_iadd (np := 33) B.1 dX13_pieceLength_32 rfl ?_
      refine g_iald (np := 34) B.1 10 8 (by decide) rfl rfl h.1 dX13_pieceLength_33 rfl ?_
      replace h := h.2
      exact g_iret B (ty := .int) rfl rfl (Nat.le_of_ble_eq_true rfl) (Nat.le_of_ble_eq_true rfl) dX13_pieceLength_34 ⟨_, rfl, h⟩
    · replace h := h.2 q
      refine g_iconst (np := 22) (v := 0) B.1 dX13_pieceLength_21 (by decide) rfl ?_
      refine g_goto (tgt := 34) B.1 dX13_pieceLength_22 (by decide) ?_
      exact g_iret B (ty := .int) rfl rfl (Nat.le_of_ble_eq_true rfl) (Nat.le_of_ble_eq_true rfl) dX13_pieceLength_34 ⟨_, rfl, h⟩
def wX13_longestPiece_4   (Q : Int32 → Mem → Prop) (E : String → Mem → Prop)  (X48 : Int32 → Mem → Prop) : Nat → Int32 → Int32 → Mem → Prop
  | 0, _, _, _ => False
  | n4 + 1, v1, v2, s0 => ((rd s0 10 8 13 ≤ v2 → X48 v1 s0) ∧ (¬ rd s0 10 8 13 ≤ v2 → vp_in (78 + v2) (iaLen 8) ∧ vp_in (78 + v1) (iaLen 8) ∧ ((rd s0 10 8 (78 + v2).toNatClampNeg ≤ rd s0 10 8 (78 + v1).toNatClampNeg → ∀ v2_1 : Int32, v2_1 = (v2 + 1) → wX13_longestPiece_4   Q E X48 n4 v1 v2_1 s0) ∧ (¬ rd s0 10 8 (78 + v2).toNatClampNeg ≤ rd s0 10 8 (78 + v1).toNatClampNeg → ∀ v2_2 : Int32, v2_2 = (v2 + 1) → wX13_longestPiece_4   Q E X48 n4 v2 v2_2 s0))))
def wX13_longestPiece   (s0 : Mem) (Q : Int32 → Mem → Prop) (E : String → Mem → Prop) : Prop := ∃ m9 : Nat, wX13_longestPiece_4   Q E (fun (x1_3 : Int32) (s4 : Mem) => ((¬ rd s4 10 8 13 = 0 → wX13_isThrown  0 1 s4 (fun (r5 : Int32) (s6 : Mem) => ((r5 = 0 → Q x1_3 s6) ∧ (¬ r5 = 0 → Q 0 s6))) E) ∧ (rd s4 10 8 13 = 0 → wX13_isThrown  1 1 s4 (fun (r7 : Int32) (s8 : Mem) => ((r7 = 0 → Q x1_3 s8) ∧ (¬ r7 = 0 → Q 0 s8))) E))) m9 0 1  s0
set_option maxRecDepth 20000 in
set_option maxHeartbeats 4000000 in
theorem oX13_longestPiece_4 {K : Fr} {Q : Int32 → Mem → Prop} {E : String → Mem → Prop} (B : Bd K cX13_longestPiece "YarnMillModel" 3 (some .int) 1 22 0 0 (RI Q) E)    {X48 : Int32 → Mem → Prop} {cells slots : Nat} (hX48 : ∀ (y1 : Int32) (τ : Mem), X48 y1 τ → Go K cells slots τ 48 [some (.ref (xad (fX K) 15 0)), some (.int y1), none] ([])) (hc : cells ≤ 0) (hs : slots ≤ 0) : ∀ (n : Nat) (v1 : Int32) (v2 : Int32) (s0 : Mem), wX13_longestPiece_4   Q E X48 n v1 v2 s0 → Go K cells slots s0 4 [some (.ref (xad (fX K) 15 0)), some (.int v1), some (.int v2)] ([]) := by
  intro n
  induction n with
  | zero => intro v1 v2 s0 h; exact absurd h (by simp [wX13_longestPiece_4])
  | succ n ih =>
    intro v1 v2 s0 h
    simp only [wX13_longestPiece_4] at h
    refine g_iload_n (np := 5) B.1 dX13_longestPiece_4 rfl rfl ?_
    refine g_aload_n (np := 6) B.1 dX13_longestPiece_5 rfl rfl ?_
    refine gf_YModel_9_15 (np := 9) B.1 dX13_longestPiece_6 rfl ?_
    refine g_bipush (np := 11) (v := 13) B.1 dX13_longestPiece_9 (by decide) rfl ?_
    refine g_ialdL (np := 12) B.1 10 8 (by decide) rfl rfl 13 (by decide) (vpl (by decide)) dX13_longestPiece_11 rfl ?_
    refine g_icmp_ge (np := 15) (tgt := 48) B.1 dX13_longestPiece_12 (by decide) rfl (fun q => ?_) (fun q => ?_)
    · replace h := h.1 q
      refine Go.lle [some (.ref (xad (fX K) 15 0)), some (.int v1), none] (by simp [lle]) ?_
      exact hX48 v1 s0 h
    · replace h := h.2 q
      refine g_aload_n (np := 16) B.1 dX13_longestPiece_15 rfl rfl ?_
      refine gf_YModel_9_15 (np := 19) B.1 dX13_longestPiece_16 rfl ?_
      refine g_bipush (np := 21) (v := 78) B.1 dX13_longestPiece_19 (by decide) rfl ?_
      refine g_iload_n (np := 22) B.1 dX13_longestPiece_21 rfl rfl ?_
      refine g_iadd (np := 23) B.1 dX13_longestPiece_22 rfl ?_
      refine g_iald (np := 24) B.1 10 8 (by decide) rfl rfl h.1 dX13_longestPiece_23 rfl ?_
      replace h := h.2
      refine g_aload_n (np := 25) B.1 dX13_longestPiece_24 rfl rfl ?_
      refine gf_YModel_9_15 (np := 28) B.1 dX13_longestPiece_25 rfl ?_
      refine g_bipush (np := 30) (v := 78) B.1 dX13_longestPiece_28 (by decide) rfl ?_
      refine g_iload_n (np := 31) B.1 dX13_longestPiece_30 rfl rfl ?_
      refine g_iadd (np := 32) B.1 dX13_longestPiece_31 rfl ?_
      refine g_iald (np := 33) B.1 10 8 (by decide) rfl rfl h.1 dX13_longestPiece_32 rfl ?_
      replace h := h.2
      refine g_icmp_le (np := 36) (tgt := 40) B.1 dX13_longestPiece_33 (by decide) rfl (fun q => ?_) (fun q => ?_)
      · replace h := h.1 q
        refine g_iload_n (np := 41) B.1 dX13_longestPiece_40 rfl rfl ?_
        refine g_istore_n (np := 42) (lv' := [some (.ref (xad (fX K) 15 0)), some (.int v1), some (.int v2)]) B.1 dX13_longestPiece_41 (by decide) rfl rfl rfl ?_
        obtain ⟨v2_1, ev2_1⟩ : ∃ y : Int32, y = v2 + 1 := ⟨_, rfl⟩
        replace h := h v2_1 ev2_1
        refine g_iinc (np := 45) (v := v2_1) (lv' := [some (.ref (xad (fX K) 15 0)), some (.int v1), some (.int v2_1)]) B.1 dX13_longestPiece_42 rfl (by rw [ev2_1]; rfl) (by decide) rfl rfl rfl ?_
        refine g_goto (tgt := 4) B.1 dX13_longestPiece_45 (by decide) ?_
        refine Go.lle [some (.ref (xad (fX K) 15 0)), some (.int v1), some (.int v2_1)] (by simp [lle]) ?_
        exact ih v1 v2_1 s0 h
      · replace h := h.2 q
        refine g_iload_n (np := 37) B.1 dX13_longestPiece_36 rfl rfl ?_
        refine g_goto (tgt := 41) B.1 dX13_longestPiece_37 (by decide) ?_
        refine g_istore_n (np := 42) (lv' := [some (.ref (xad (fX K) 15 0)), some (.int v2), some (.int v2)]) B.1 dX13_longestPiece_41 (by decide) rfl rfl rfl ?_
        obtain ⟨v2_2, ev2_2⟩ : ∃ y : Int32, y = v2 + 1 := ⟨_, rfl⟩
        replace h := h v2_2 ev2_2
        refine g_iinc (np := 45) (v := v2_2) (lv' := [some (.ref (xad (fX K) 15 0)), some (.int v2), some (.int v2_2)]) B.1 dX13_longestPiece_42 rfl (by rw [ev2_2]; rfl) (by decide) rfl rfl rfl ?_
        refine g_goto (tgt := 4) B.1 dX13_longestPiece_45 (by decide) ?_
        refine Go.lle [some (.ref (xad (fX K) 15 0)), some (.int v2), some (.int v2_2)] (by simp [lle]) ?_
        exact ih v2 v2_2 s0 h
set_option maxRecDepth 20000 in
set_option maxHeartbeats 4000000 in
theorem oX13_longestPiece {l : Launch} {x : Ctx} (hl : l.stackTraces = false)     (s0 : Mem) (Q : Int32 → Mem → Prop) (E : String → Mem → Prop) (h : wX13_longestPiece   s0 Q E) : MetG l x yX13_longestPiece cX13_longestPiece 3 (some .int) 1 22 0 0 [.ref (xad x 15 0)] s0 (RI Q) E := by
  refine MetG.of hl (by decide) (Nat.le_of_ble_eq_true rfl) [some (.ref (xad x 15 0)), none, none] rfl (fun K B hx _ => ?_)
  subst hx
  unfold wX13_longestPiece at h
  refine g_iconst (np := 1) (v := 0) B.1 dX13_longestPiece_0 (by decide) rfl ?_
  refine g_istore_n (np := 2) (lv' := [some (.ref (xad (fX K) 15 0)), some (.int 0), none]) B.1 dX13_longestPiece_1 (by decide) rfl rfl rfl ?_
  refine g_iconst (np := 3) (v := 1) B.1 dX13_longestPiece_2 (by decide) rfl ?_
  refine g_istore_n (np := 4) (lv' := [some (.ref (xad (fX K) 15 0)), some (.int 0), some (.int 1)]) B.1 dX13_longestPiece_3 (by decide) rfl rfl rfl ?_
  obtain ⟨m9, h⟩ := h
  refine Go.lle [some (.ref (xad (fX K) 15 0)), some (.int 0), some (.int 1)] (by simp [lle]) ?_
  refine oX13_longestPiece_4 B    (fun x1_3 s4 h => ?_) (Nat.le_of_ble_eq_true rfl) (Nat.le_of_ble_eq_true rfl) m9 0 1  s0 h
  refine g_aload_n (np := 49) B.1 dX13_longestPiece_48 rfl rfl ?_
  refine g_aload_n (np := 50) B.1 dX13_longestPiece_49 rfl rfl ?_
  refine gf_YModel_9_15 (np := 53) B.1 dX13_longestPiece_50 rfl ?_
  refine g_bipush (np := 55) (v := 13) B.1 dX13_longestPiece_53 (by decide) rfl ?_
  refine g_ialdL (np := 56) B.1 10 8 (by decide) rfl rfl 13 (by decide) (vpl (by decide)) dX13_longestPiece_55 rfl ?_
  refine g_if_ne (np := 59) (tgt := 63) B.1 dX13_longestPiece_56 (by decide) rfl (fun q => ?_) (fun q => ?_)
  · replace h := h.1 q
    refine g_iconst (np := 64) (v := 0) B.1 dX13_longestPiece_63 (by decide) rfl ?_
    refine g_iconst (np := 65) (v := 1) B.1 dX13_longestPiece_64 (by decide) rfl ?_
    refine gc_YModel_65 (np := 68) B   (oX13_isThrown B.1.tr   0 1  _ _ _ h) (Nat.le_of_ble_eq_true rfl) (Nat.le_of_ble_eq_true rfl) (Nat.le_of_ble_eq_true rfl) (Nat.le_of_ble_eq_true rfl) (Nat.le_of_ble_eq_true rfl) dX13_longestPiece_65 rfl (fun r5 s6 h => ?_)
    refine g_if_eq (np := 71) (tgt := 75) B.1 dX13_longestPiece_68 (by decide) rfl (fun q => ?_) (fun q => ?_)
    · replace h := h.1 q
      refine g_iload_n (np := 76) B.1 dX13_longestPiece_75 rfl rfl ?_
      exact g_iret B (ty := .int) rfl rfl (Nat.le_of_ble_eq_true rfl) (Nat.le_of_ble_eq_true rfl) dX13_longestPiece_76 ⟨_, rfl, h⟩
    · replace h := h.2 q
      refine g_iconst (np := 72) (v := 0) B.1 dX13_longestPiece_71 (by decide) rfl ?_
      refine g_goto (tgt := 76) B.1 dX13_longestPiece_72 (by decide) ?_
      exact g_iret B (ty := .int) rfl rfl (Nat.le_of_ble_eq_true rfl) (Nat.le_of_ble_eq_true rfl) dX13_longestPiece_76 ⟨_, rfl, h⟩
  · replace h := h.2 q
    refine g_iconst (np := 60) (v := 1) B.1 dX13_longestPiece_59 (by decide) rfl ?_
    refine g_goto (tgt := 64) B.1 dX13_longestPiece_60 (by decide) ?_
    refine g_iconst (np := 65) (v := 1) B.1 dX13_longestPiece_64 (by decide) rfl ?_
    refine gc_YModel_65 (np := 68) B   (oX13_isThrown B.1.tr   1 1  _ _ _ h) (Nat.le_of_ble_eq_true rfl) (Nat.le_of_ble_eq_true rfl) (Nat.le_of_ble_eq_true rfl) (Nat.le_of_ble_eq_true rfl) (Nat.le_of_ble_eq_true rfl) dX13_longestPiece_65 rfl (fun r7 s8 h => ?_)
    refine g_if_eq (np := 71) (tgt := 75) B.1 dX13_longestPiece_68 (by decide) rfl (fun q => ?_) (fun q => ?_)
    · replace h := h.1 q
      refine g_iload_n (np := 76) B.1 dX13_longestPiece_75 rfl rfl ?_
      exact g_iret B (ty := .int) rfl rfl (Nat.le_of_ble_eq_true rfl) (Nat.le_of_ble_eq_true rfl) dX13_longestPiece_76 ⟨_, rfl, h⟩
    · replace h := h.2 q
      refine g_iconst (np := 72) (v := 0) B.1 dX13_longestPiece_71 (by decide) rfl ?_
      refine g_goto (tgt := 76) B.1 dX13_longestPiece_72 (by decide) ?_
      exact g_iret B (ty := .int) rfl rfl (Nat.le_of_ble_eq_true rfl) (Nat.le_of_ble_eq_true rfl) dX13_longestPiece_76 ⟨_, rfl, h⟩
def wX13_pieceByLength_18   (Q : Int32 → Mem → Prop) (E : String → Mem → Prop)  (X82 : Int32 → Int32 → Int32 → Mem → Prop) : Nat → Int32 → Int32 → Int32 → Int32 → Mem → Prop
  | 0, _, _, _, _, _ => False
  | n18 + 1, v1, v2, v3, v4, s0 => ((rd s0 10 8 13 ≤ v4 → X82 v1 v2 v3 s0) ∧ (¬ rd s0 10 8 13 ≤ v4 → vp_in (78 + v2) (iaLen 8) ∧ vp_in (78 + v4) (iaLen 8) ∧ ∀ v5_1 : Int32, v5_1 = ((rd s0 10 8 (78 + v2).toNatClampNeg) - (rd s0 10 8 (78 + v4).toNatClampNeg)) → ((0 < v5_1 → ∀ v3_2 : Int32, v3_2 = (v3 + 1) → ∀ v4_3 : Int32, v4_3 = (v4 + 1) → wX13_pieceByLength_18   Q E X82 n18 v1 v2 v3_2 v4_3 s0) ∧ (¬ 0 < v5_1 → ((¬ v5_1 = 0 → ∀ v3_4 : Int32, v3_4 = (v3 + 0) → ∀ v4_5 : Int32, v4_5 = (v4 + 1) → wX13_pieceByLength_18   Q E X82 n18 v1 v2 v3_4 v4_5 s0) ∧ (v5_1 = 0 → ((v2 ≤ v4 → ∀ v3_6 : Int32, v3_6 = (v3 + 0) → ∀ v4_7 : Int32, v4_7 = (v4 + 1) → wX13_pieceByLength_18   Q E X82 n18 v1 v2 v3_6 v4_7 s0) ∧ (¬ v2 ≤ v4 → ∀ v3_8 : Int32, v3_8 = (v3 + 1) → ∀ v4_9 : Int32, v4_9 = (v4 + 1) → wX13_pieceByLength_18   Q E X82 n18 v1 v2 v3_8 v4_9 s0))))))))
def wX13_pieceByLength_2   (Q : Int32 → Mem → Prop) (E : String → Mem → Prop)  (X87 : Int32 → Mem → Prop) (X100 : Mem → Prop) : Nat → Int32 → Int32 → Mem → Prop
  | 0, _, _, _ => False
  | n2 + 1, v1, v2, s0 => ((rd s0 10 8 13 ≤ v2 → X100  s0) ∧ (¬ rd s0 10 8 13 ≤ v2 → ∃ m15 : Nat, wX13_pieceByLength_18   Q E (fun (x1_10 : Int32) (x2_11 : Int32) (x3_12 : Int32) (s13 : Mem) => ((¬ x3_12 = x1_10 → ∀ v2_14 : Int32, v2_14 = (x2_11 + 1) → wX13_pieceByLength_2   Q E X87 X100 n2 x1_10 v2_14 s13) ∧ (x3_12 = x1_10 → X87 x2_11 s13))) m15 v1 v2 0 0  s0))
def wX13_pieceByLength  (a1 : Int32) (s0 : Mem) (Q : Int32 → Mem → Prop) (E : String → Mem → Prop) : Prop := ∃ m21 : Nat, wX13_pieceByLength_2   Q E (fun (x2_16 : Int32) (s17 : Mem) => ∀ s18 : Mem, s18 = wr s17 15 0 7 0 → Q x2_16 s18) (fun (s19 : Mem) => ∀ s20 : Mem, s20 = wr s19 15 0 7 1 → Q 0 s20) m21 a1 0  s0
set_option maxRecDepth 20000 in
set_option maxHeartbeats 4000000 in
theorem oX13_pieceByLength_18 {K : Fr} {Q : Int32 → Mem → Prop} {E : String → Mem → Prop} (B : Bd K cX13_pieceByLength "YarnMillModel" 6 (some .int) 0 0 0 0 (RI Q) E)    {X82 : Int32 → Int32 → Int32 → Mem → Prop} {cells slots : Nat} (hX82 : ∀ (y1 : Int32) (y2 : Int32) (y3 : Int32) (τ : Mem), X82 y1 y2 y3 τ → Go K cells slots τ 82 [some (.ref (xad (fX K) 15 0)), some (.int y1), some (.int y2), some (.int y3), none, none] ([])) (hc : cells ≤ 0) (hs : slots ≤ 0) : ∀ (n : Nat) (v1 : Int32) (v2 : Int32) (v3 : Int32) (v4 : Int32) (s0 : Mem), wX13_pieceByLength_18   Q E X82 n v1 v2 v3 v4 s0 → Go K cells slots s0 18 [some (.ref (xad (fX K) 15 0)), some (.int v1), some (.int v2), some (.int v3), some (.int v4), none] ([]) := by
  intro n
  induction n with
  | zero => intro v1 v2 v3 v4 s0 h; exact absurd h (by simp [wX13_pieceByLength_18])
  | succ n ih =>
    intro v1 v2 v3 v4 s0 h
    simp only [wX13_pieceByLength_18] at h
    refine g_iload (np := 20) B.1 dX13_pieceByLength_18 rfl rfl ?_
    refine g_aload_n (np := 21) B.1 dX13_pieceByLength_20 rfl rfl ?_
    refine gf_YModel_9_15 (np := 24) B.1 dX13_pieceByLength_21 rfl ?_
    refine g_bipush (np := 26) (v := 13) B.1 dX13_pieceByLength_24 (by decide) rfl ?_
    refine g_ialdL (np := 27) B.1 10 8 (by decide) rfl rfl 13 (by decide) (vpl (by decide)) dX13_pieceByLength_26 rfl ?_
    refine g_icmp_ge (np := 30) (tgt := 82) B.1 dX13_pieceByLength_27 (by decide) rfl (fun q => ?_) (fun q => ?_)
    · replace h := h.1 q
      refine Go.lle [some (.ref (xad (fX K) 15 0)), some (.int v1), some (.int v2), some (.int v3), none, none] (by simp [lle]) ?_
      exact hX82 v1 v2 v3 s0 h
    · replace h := h.2 q
      refine g_aload_n (np := 31) B.1 dX13_pieceByLength_30 rfl rfl ?_
      refine gf_YModel_9_15 (np := 34) B.1 dX13_pieceByLength_31 rfl ?_
      refine g_bipush (np := 36) (v := 78) B.1 dX13_pieceByLength_34 (by decide) rfl ?_
      refine g_iload_n (np := 37) B.1 dX13_pieceByLength_36 rfl rfl ?_
      refine g_iadd (np := 38) B.1 dX13_pieceByLength_37 rfl ?_
      refine g_iald (np := 39) B.1 10 8 (by decide) rfl rfl h.1 dX13_pieceByLength_38 rfl ?_
      replace h := h.2
      refine g_aload_n (np := 40) B.1 dX13_pieceByLength_39 rfl rfl ?_
      refine gf_YModel_9_15 (np := 43) B.1 dX13_pieceByLength_40 rfl ?_
      refine g_bipush (np := 45) (v := 78) B.1 dX13_pieceByLength_43 (by decide) rfl ?_
      refine g_iload (np := 47) B.1 dX13_pieceByLength_45 rfl rfl ?_
      refine g_iadd (np := 48) B.1 dX13_pieceByLength_47 rfl ?_
      refine g_iald (np := 49) B.1 10 8 (by decide) rfl rfl h.1 dX13_pieceByLength_48 rfl ?_
      replace h := h.2
      refine g_isub (np := 50) B.1 dX13_pieceByLength_49 rfl ?_
      refine g_topi (fun v5_1 ev5_1 => ?_)
      replace h := h v5_1 ev5_1
      refine g_istore (np := 52) (lv' := [some (.ref (xad (fX K) 15 0)), some (.int v1), some (.int v2), some (.int v3), some (.int v4), some (.int v5_1)]) B.1 dX13_pieceByLength_50 (by decide) rfl rfl rfl ?_
      refine g_iload_n (np := 53) B.1 dX13_pieceByLength_52 rfl rfl ?_
      refine g_iload (np := 55) B.1 dX13_pieceByLength_53 rfl rfl ?_
      refine g_if_gt (np := 58) (tgt := 69) B.1 dX13_pieceByLength_55 (by decide) rfl (fun q => ?_) (fun q => ?_)
      · replace h := h.1 q
        refine g_iconst (np := 70) (v := 1) B.1 dX13_pieceByLength_69 (by decide) rfl ?_
        refine g_goto (tgt := 74) B.1 dX13_pieceByLength_70 (by decide) ?_
        refine g_iadd (np := 75) B.1 dX13_pieceByLength_74 rfl ?_
        refine g_topi (fun v3_2 ev3_2 => ?_)
        replace h := h v3_2 ev3_2
        refine g_istore_n (np := 76) (lv' := [some (.ref (xad (fX K) 15 0)), some (.int v1), some (.int v2), some (.int v3_2), some (.int v4), some (.int v5_1)]) B.1 dX13_pieceByLength_75 (by decide) rfl rfl rfl ?_
        obtain ⟨v4_3, ev4_3⟩ : ∃ y : Int32, y = v4 + 1 := ⟨_, rfl⟩
        replace h := h v4_3 ev4_3
        refine g_iinc (np := 79) (v := v4_3) (lv' := [some (.ref (xad (fX K) 15 0)), some (.int v1), some (.int v2), some (.int v3_2), some (.int v4_3), some (.int v5_1)]) B.1 dX13_pieceByLength_76 rfl (by rw [ev4_3]; rfl) (by decide) rfl rfl rfl ?_
        refine g_goto (tgt := 18) B.1 dX13_pieceByLength_79 (by decide) ?_
        refine Go.lle [some (.ref (xad (fX K) 15 0)), some (.int v1), some (.int v2), some (.int v3_2), some (.int v4_3), none] (by simp [lle]) ?_
        exact ih v1 v2 v3_2 v4_3 s0 h
      · replace h := h.2 q
        refine g_iload (np := 60) B.1 dX13_pieceByLength_58 rfl rfl ?_
        refine g_if_ne (np := 63) (tgt := 73) B.1 dX13_pieceByLength_60 (by decide) rfl (fun q => ?_) (fun q => ?_)
        · replace h := h.1 q
          refine g_iconst (np := 74) (v := 0) B.1 dX13_pieceByLength_73 (by decide) rfl ?_
          refine g_iadd (np := 75) B.1 dX13_pieceByLength_74 rfl ?_
          refine g_topi (fun v3_4 ev3_4 => ?_)
          replace h := h v3_4 ev3_4
          refine g_istore_n (np := 76) (lv' := [some (.ref (xad (fX K) 15 0)), some (.int v1), some (.int v2), some (.int v3_4), some (.int v4), some (.int v5_1)]) B.1 dX13_pieceByLength_75 (by decide) rfl rfl rfl ?_
          obtain ⟨v4_5, ev4_5⟩ : ∃ y : Int32, y = v4 + 1 := ⟨_, rfl⟩
          replace h := h v4_5 ev4_5
          refine g_iinc (np := 79) (v := v4_5) (lv' := [some (.ref (xad (fX K) 15 0)), some (.int v1), some (.int v2), some (.int v3_4), some (.int v4_5), some (.int v5_1)]) B.1 dX13_pieceByLength_76 rfl (by rw [ev4_5]; rfl) (by decide) rfl rfl rfl ?_
          refine g_goto (tgt := 18) B.1 dX13_pieceByLength_79 (by decide) ?_
          refine Go.lle [some (.ref (xad (fX K) 15 0)), some (.int v1), some (.int v2), some (.int v3_4), some (.int v4_5), none] (by simp [lle]) ?_
          exact ih v1 v2 v3_4 v4_5 s0 h
        · replace h := h.2 q
          refine g_iload (np := 65) B.1 dX13_pieceByLength_63 rfl rfl ?_
          refine g_iload_n (np := 66) B.1 dX13_pieceByLength_65 rfl rfl ?_
          refine g_icmp_ge (np := 69) (tgt := 73) B.1 dX13_pieceByLength_66 (by decide) rfl (fun q => ?_) (fun q => ?_)
          · replace h := h.1 q
            refine g_iconst (np := 74) (v := 0) B.1 dX13_pieceByLength_73 (by decide) rfl ?_
            refine g_iadd (np := 75) B.1 dX13_pieceByLength_74 rfl ?_
            refine g_topi (fun v3_6 ev3_6 => ?_)
            replace h := h v3_6 ev3_6
            refine g_istore_n (np := 76) (lv' := [some (.ref (xad (fX K) 15 0)), some (.int v1), some (.int v2), some (.int v3_6), some (.int v4), some (.int v5_1)]) B.1 dX13_pieceByLength_75 (by decide) rfl rfl rfl ?_
            obtain ⟨v4_7, ev4_7⟩ : ∃ y : Int32, y = v4 + 1 := ⟨_, rfl⟩
            replace h := h v4_7 ev4_7
            refine g_iinc (np := 79) (v := v4_7) (lv' := [some (.ref (xad (fX K) 15 0)), some (.int v1), some (.int v2), some (.int v3_6), some (.int v4_7), some (.int v5_1)]) B.1 dX13_pieceByLength_76 rfl (by rw [ev4_7]; rfl) (by decide) rfl rfl rfl ?_
            refine g_goto (tgt := 18) B.1 dX13_pieceByLength_79 (by decide) ?_
            refine Go.lle [some (.ref (xad (fX K) 15 0)), some (.int v1), some (.int v2), some (.int v3_6), some (.int v4_7), none] (by simp [lle]) ?_
            exact ih v1 v2 v3_6 v4_7 s0 h
          · replace h := h.2 q
            refine g_iconst (np := 70) (v := 1) B.1 dX13_pieceByLength_69 (by decide) rfl ?_
            refine g_goto (tgt := 74) B.1 dX13_pieceByLength_70 (by decide) ?_
            refine g_iadd (np := 75) B.1 dX13_pieceByLength_74 rfl ?_
            refine g_topi (fun v3_8 ev3_8 => ?_)
            replace h := h v3_8 ev3_8
            refine g_istore_n (np := 76) (lv' := [some (.ref (xad (fX K) 15 0)), some (.int v1), some (.int v2), some (.int v3_8), some (.int v4), some (.int v5_1)]) B.1 dX13_pieceByLength_75 (by decide) rfl rfl rfl ?_
            obtain ⟨v4_9, ev4_9⟩ : ∃ y : Int32, y = v4 + 1 := ⟨_, rfl⟩
            replace h := h v4_9 ev4_9
            refine g_iinc (np := 79) (v := v4_9) (lv' := [some (.ref (xad (fX K) 15 0)), some (.int v1), some (.int v2), some (.int v3_8), some (.int v4_9), some (.int v5_1)]) B.1 dX13_pieceByLength_76 rfl (by rw [ev4_9]; rfl) (by decide) rfl rfl rfl ?_
            refine g_goto (tgt := 18) B.1 dX13_pieceByLength_79 (by decide) ?_
            refine Go.lle [some (.ref (xad (fX K) 15 0)), some (.int v1), some (.int v2), some (.int v3_8), some (.int v4_9), none] (by simp [lle]) ?_
            exact ih v1 v2 v3_8 v4_9 s0 h
set_option maxRecDepth 20000 in
set_option maxHeartbeats 4000000 in
theorem oX13_pieceByLength_2 {K : Fr} {Q : Int32 → Mem → Prop} {E : String → Mem → Prop} (B : Bd K cX13_pieceByLength "YarnMillModel" 6 (some .int) 0 0 0 0 (RI Q) E)    {X87 : Int32 → Mem → Prop} {X100 : Mem → Prop} {cells slots : Nat} (hX87 : ∀ (y2 : Int32) (τ : Mem), X87 y2 τ → Go K cells slots τ 87 [some (.ref (xad (fX K) 15 0)), none, some (.int y2), none, none, none] ([])) (hX100 : ∀ (τ : Mem), X100  τ → Go K cells slots τ 100 [some (.ref (xad (fX K) 15 0)), none, none, none, none, none] ([])) (hc : cells ≤ 0) (hs : slots ≤ 0) : ∀ (n : Nat) (v1 : Int32) (v2 : Int32) (s0 : Mem), wX13_pieceByLength_2   Q E X87 X100 n v1 v2 s0 → Go K cells slots s0 2 [some (.ref (xad (fX K) 15 0)), some (.int v1), some (.int v2), none, none, none] ([]) := by
  intro n
  induction n with
  | zero => intro v1 v2 s0 h; exact absurd h (by simp [wX13_pieceByLength_2])
  | succ n ih =>
    intro v1 v2 s0 h
    simp only [wX13_pieceByLength_2] at h
    refine g_iload_n (np := 3) B.1 dX13_pieceByLength_2 rfl rfl ?_
    refine g_aload_n (np := 4) B.1 dX13_pieceByLength_3 rfl rfl ?_
    refine gf_YModel_9_15 (np := 7) B.1 dX13_pieceByLength_4 rfl ?_
    refine g_bipush (np := 9) (v := 13) B.1 dX13_pieceByLength_7 (by decide) rfl ?_
    refine g_ialdL (np := 10) B.1 10 8 (by decide) rfl rfl 13 (by decide) (vpl (by decide)) dX13_pieceByLength_9 rfl ?_
    refine g_icmp_ge (np := 13) (tgt := 100) B.1 dX13_pieceByLength_10 (by decide) rfl (fun q => ?_) (fun q => ?_)
    · replace h := h.1 q
      refine Go.lle [some (.ref (xad (fX K) 15 0)), none, none, none, none, none] (by simp [lle]) ?_
      exact hX100  s0 h
    · replace h := h.2 q
      refine g_iconst (np := 14) (v := 0) B.1 dX13_pieceByLength_13 (by decide) rfl ?_
      refine g_istore_n (np := 15) (lv' := [some (.ref (xad (fX K) 15 0)), some (.int v1), some (.int v2), some (.int 0), none, none]) B.1 dX13_pieceByLength_14 (by decide) rfl rfl rfl ?_
      refine g_iconst (np := 16) (v := 0) B.1 dX13_pieceByLength_15 (by decide) rfl ?_
      refine g_istore (np := 18) (lv' := [some (.ref (xad (fX K) 15 0)), some (.int v1), some (.int v2), some (.int 0), some (.int 0), none]) B.1 dX13_pieceByLength_16 (by decide) rfl rfl rfl ?_
      obtain ⟨m15, h⟩ := h
      refine Go.lle [some (.ref (xad (fX K) 15 0)), some (.int v1), some (.int v2), some (.int 0), some (.int 0), none] (by simp [lle]) ?_
      refine oX13_pieceByLength_18 B    (fun x1_10 x2_11 x3_12 s13 h => ?_) hc hs m15 v1 v2 0 0  s0 h
      refine g_iload_n (np := 83) B.1 dX13_pieceByLength_82 rfl rfl ?_
      refine g_iload_n (np := 84) B.1 dX13_pieceByLength_83 rfl rfl ?_
      refine g_icmp_ne (np := 87) (tgt := 94) B.1 dX13_pieceByLength_84 (by decide) rfl (fun q => ?_) (fun q => ?_)
      · replace h := h.1 q
        obtain ⟨v2_14, ev2_14⟩ : ∃ y : Int32, y = x2_11 + 1 := ⟨_, rfl⟩
        replace h := h v2_14 ev2_14
        refine g_iinc (np := 97) (v := v2_14) (lv' := [some (.ref (xad (fX K) 15 0)), some (.int x1_10), some (.int v2_14), some (.int x3_12), none, none]) B.1 dX13_pieceByLength_94 rfl (by rw [ev2_14]; rfl) (by decide) rfl rfl rfl ?_
        refine g_goto (tgt := 2) B.1 dX13_pieceByLength_97 (by decide) ?_
        refine Go.lle [some (.ref (xad (fX K) 15 0)), some (.int x1_10), some (.int v2_14), none, none, none] (by simp [lle]) ?_
        exact ih x1_10 v2_14 s13 h
      · replace h := h.2 q
        refine Go.lle [some (.ref (xad (fX K) 15 0)), none, some (.int x2_11), none, none, none] (by simp [lle]) ?_
        exact hX87 x2_11 s13 h
set_option maxRecDepth 20000 in
set_option maxHeartbeats 4000000 in
theorem oX13_pieceByLength {l : Launch} {x : Ctx} (hl : l.stackTraces = false)   (a1 : Int32)  (s0 : Mem) (Q : Int32 → Mem → Prop) (E : String → Mem → Prop) (h : wX13_pieceByLength  a1 s0 Q E) : MetG l x yX13_pieceByLength cX13_pieceByLength 6 (some .int) 0 0 0 0 [.ref (xad x 15 0), .int a1] s0 (RI Q) E := by
  refine MetG.of hl (by decide) (Nat.le_of_ble_eq_true rfl) [some (.ref (xad x 15 0)), some (.int a1), none, none, none, none] rfl (fun K B hx _ => ?_)
  subst hx
  unfold wX13_pieceByLength at h
  refine g_iconst (np := 1) (v := 0) B.1 dX13_pieceByLength_0 (by decide) rfl ?_
  refine g_istore_n (np := 2) (lv' := [some (.ref (xad (fX K) 15 0)), some (.int a1), some (.int 0), none, none, none]) B.1 dX13_pieceByLength_1 (by decide) rfl rfl rfl ?_
  obtain ⟨m21, h⟩ := h
  refine Go.lle [some (.ref (xad (fX K) 15 0)), some (.int a1), some (.int 0), none, none, none] (by simp [lle]) ?_
  refine oX13_pieceByLength_2 B    (fun x2_16 s17 h => ?_) (fun s19 h => ?_) (Nat.le_of_ble_eq_true rfl) (Nat.le_of_ble_eq_true rfl) m21 a1 0  s0 h
  · refine g_aload_n (np := 88) B.1 dX13_pieceByLength_87 rfl rfl ?_
    refine g_iconst (np := 89) (v := 0) B.1 dX13_pieceByLength_88 (by decide) rfl ?_
    refine gp_YModel_44_15 (np := 92) B.1 dX13_pieceByLength_89 rfl ?_
    refine g_mem (fun s18 es18 => ?_)
    replace h := h s18 es18
    refine g_iload_n (np := 93) B.1 dX13_pieceByLength_92 rfl rfl ?_
    exact g_iret B (ty := .int) rfl rfl (Nat.le_of_ble_eq_true rfl) (Nat.le_of_ble_eq_true rfl) dX13_pieceByLength_93 ⟨_, rfl, h⟩
  · refine g_aload_n (np := 101) B.1 dX13_pieceByLength_100 rfl rfl ?_
    refine g_iconst (np := 102) (v := 1) B.1 dX13_pieceByLength_101 (by decide) rfl ?_
    refine gp_YModel_44_15 (np := 105) B.1 dX13_pieceByLength_102 rfl ?_
    refine g_mem (fun s20 es20 => ?_)
    replace h := h s20 es20
    refine g_iconst (np := 106) (v := 0) B.1 dX13_pieceByLength_105 (by decide) rfl ?_
    exact g_iret B (ty := .int) rfl rfl (Nat.le_of_ble_eq_true rfl) (Nat.le_of_ble_eq_true rfl) dX13_pieceByLength_106 ⟨_, rfl, h⟩
def wX13_worthOf  (a1 : Int32) (s0 : Mem) (Q : Int32 → Mem → Prop) (E : String → Mem → Prop) : Prop := wX13_isPiece  a1 s0 (fun (r1 : Int32) (s2 : Mem) => ((¬ r1 = 0 → wX13_isThrown  0 1 s2 (fun (r3 : Int32) (s4 : Mem) => ((r3 = 0 → wX13_worth  a1 s4 (fun (r5 : Int32) (s6 : Mem) => Q r5 s6) E) ∧ (¬ r3 = 0 → Q 0 s4))) E) ∧ (r1 = 0 → wX13_isThrown  1 1 s2 (fun (r7 : Int32) (s8 : Mem) => ((r7 = 0 → wX13_worth  a1 s8 (fun (r9 : Int32) (s10 : Mem) => Q r9 s10) E) ∧ (¬ r7 = 0 → Q 0 s8))) E))) E
set_option maxRecDepth 20000 in
set_option maxHeartbeats 4000000 in
theorem oX13_worthOf {l : Launch} {x : Ctx} (hl : l.stackTraces = false)   (a1 : Int32)  (s0 : Mem) (Q : Int32 → Mem → Prop) (E : String → Mem → Prop) (h : wX13_worthOf  a1 s0 Q E) : MetG l x yX13_worthOf cX13_worthOf 2 (some .int) 2 43 0 0 [.ref (xad x 15 0), .int a1] s0 (RI Q) E := by
  refine MetG.of hl (by decide) (Nat.le_of_ble_eq_true rfl) [some (.ref (xad x 15 0)), some (.int a1)] rfl (fun K B hx _ => ?_)
  subst hx
  unfold wX13_worthOf at h
  refine g_aload_n (np := 1) B.1 dX13_worthOf_0 rfl rfl ?_
  refine g_aload_n (np := 2) B.1 dX13_worthOf_1 rfl rfl ?_
  refine g_iload_n (np := 3) B.1 dX13_worthOf_2 rfl rfl ?_
  refine gc_YModel_118 (np := 6) B   (oX13_isPiece B.1.tr   a1  _ _ _ h) (Nat.le_of_ble_eq_true rfl) (Nat.le_of_ble_eq_true rfl) (Nat.le_of_ble_eq_true rfl) (Nat.le_of_ble_eq_true rfl) (Nat.le_of_ble_eq_true rfl) dX13_worthOf_3 rfl (fun r1 s2 h => ?_)
  refine g_if_ne (np := 9) (tgt := 13) B.1 dX13_worthOf_6 (by decide) rfl (fun q => ?_) (fun q => ?_)
  · replace h := h.1 q
    refine g_iconst (np := 14) (v := 0) B.1 dX13_worthOf_13 (by decide) rfl ?_
    refine g_iconst (np := 15) (v := 1) B.1 dX13_worthOf_14 (by decide) rfl ?_
    refine gc_YModel_65 (np := 18) B   (oX13_isThrown B.1.tr   0 1  _ _ _ h) (Nat.le_of_ble_eq_true rfl) (Nat.le_of_ble_eq_true rfl) (Nat.le_of_ble_eq_true rfl) (Nat.le_of_ble_eq_true rfl) (Nat.le_of_ble_eq_true rfl) dX13_worthOf_15 rfl (fun r3 s4 h => ?_)
    refine g_if_eq (np := 21) (tgt := 25) B.1 dX13_worthOf_18 (by decide) rfl (fun q => ?_) (fun q => ?_)
    · replace h := h.1 q
      refine g_aload_n (np := 26) B.1 dX13_worthOf_25 rfl rfl ?_
      refine g_iload_n (np := 27) B.1 dX13_worthOf_26 rfl rfl ?_
      refine gc_YModel_136 (np := 30) B   (oX13_worth B.1.tr   a1  _ _ _ h) (Nat.le_of_ble_eq_true rfl) (Nat.le_of_ble_eq_true rfl) (Nat.le_of_ble_eq_true rfl) (Nat.le_of_ble_eq_true rfl) (Nat.le_of_ble_eq_true rfl) dX13_worthOf_27 rfl (fun r5 s6 h => ?_)
      exact g_iret B (ty := .int) rfl rfl (Nat.le_of_ble_eq_true rfl) (Nat.le_of_ble_eq_true rfl) dX13_worthOf_30 ⟨_, rfl, h⟩
    · replace h := h.2 q
      refine g_iconst (np := 22) (v := 0) B.1 dX13_worthOf_21 (by decide) rfl ?_
      refine g_goto (tgt := 30) B.1 dX13_worthOf_22 (by decide) ?_
      exact g_iret B (ty := .int) rfl rfl (Nat.le_of_ble_eq_true rfl) (Nat.le_of_ble_eq_true rfl) dX13_worthOf_30 ⟨_, rfl, h⟩
  · replace h := h.2 q
    refine g_iconst (np := 10) (v := 1) B.1 dX13_worthOf_9 (by decide) rfl ?_
    refine g_goto (tgt := 14) B.1 dX13_worthOf_10 (by decide) ?_
    refine g_iconst (np := 15) (v := 1) B.1 dX13_worthOf_14 (by decide) rfl ?_
    refine gc_YModel_65 (np := 18) B   (oX13_isThrown B.1.tr   1 1  _ _ _ h) (Nat.le_of_ble_eq_true rfl) (Nat.le_of_ble_eq_true rfl) (Nat.le_of_ble_eq_true rfl) (Nat.le_of_ble_eq_true rfl) (Nat.le_of_ble_eq_true rfl) dX13_worthOf_15 rfl (fun r7 s8 h => ?_)
    refine g_if_eq (np := 21) (tgt := 25) B.1 dX13_worthOf_18 (by decide) rfl (fun q => ?_) (fun q => ?_)
    · replace h := h.1 q
      refine g_aload_n (np := 26) B.1 dX13_worthOf_25 rfl rfl ?_
      refine g_iload_n (np := 27) B.1 dX13_worthOf_26 rfl rfl ?_
      refine gc_YModel_136 (np := 30) B   (oX13_worth B.1.tr   a1  _ _ _ h) (Nat.le_of_ble_eq_true rfl) (Nat.le_of_ble_eq_true rfl) (Nat.le_of_ble_eq_true rfl) (Nat.le_of_ble_eq_true rfl) (Nat.le_of_ble_eq_true rfl) dX13_worthOf_27 rfl (fun r9 s10 h => ?_)
      exact g_iret B (ty := .int) rfl rfl (Nat.le_of_ble_eq_true rfl) (Nat.le_of_ble_eq_true rfl) dX13_worthOf_30 ⟨_, rfl, h⟩
    · replace h := h.2 q
      refine g_iconst (np := 22) (v := 0) B.1 dX13_worthOf_21 (by decide) rfl ?_
      refine g_goto (tgt := 30) B.1 dX13_worthOf_22 (by decide) ?_
      exact g_iret B (ty := .int) rfl rfl (Nat.le_of_ble_eq_true rfl) (Nat.le_of_ble_eq_true rfl) dX13_worthOf_30 ⟨_, rfl, h⟩
def wX13_spliceCost   (s0 : Mem) (Q : Int32 → Mem → Prop) (E : String → Mem → Prop) : Prop := ∀ s1 : Mem, s1 = wr s0 15 0 7 0 → wX13_cost   s1 (fun (r2 : Int32) (s3 : Mem) => Q r2 s3) E
set_option maxRecDepth 20000 in
set_option maxHeartbeats 4000000 in
theorem oX13_spliceCost {l : Launch} {x : Ctx} (hl : l.stackTraces = false)     (s0 : Mem) (Q : Int32 → Mem → Prop) (E : String → Mem → Prop) (h : wX13_spliceCost   s0 Q E) : MetG l x yX13_spliceCost cX13_spliceCost 1 (some .int) 2 49 0 0 [.ref (xad x 15 0)] s0 (RI Q) E := by
  refine MetG.of hl (by decide) (Nat.le_of_ble_eq_true rfl) [some (.ref (xad x 15 0))] rfl (fun K B hx _ => ?_)
  subst hx
  unfold wX13_spliceCost at h
  refine g_aload_n (np := 1) B.1 dX13_spliceCost_0 rfl rfl ?_
  refine g_iconst (np := 2) (v := 0) B.1 dX13_spliceCost_1 (by decide) rfl ?_
  refine gp_YModel_44_15 (np := 5) B.1 dX13_spliceCost_2 rfl ?_
  refine g_mem (fun s1 es1 => ?_)
  replace h := h s1 es1
  refine g_aload_n (np := 6) B.1 dX13_spliceCost_5 rfl rfl ?_
  refine gc_YModel_129 (np := 9) B   (oX13_cost B.1.tr     _ _ _ h) (Nat.le_of_ble_eq_true rfl) (Nat.le_of_ble_eq_true rfl) (Nat.le_of_ble_eq_true rfl) (Nat.le_of_ble_eq_true rfl) (Nat.le_of_ble_eq_true rfl) dX13_spliceCost_6 rfl (fun r2 s3 h => ?_)
  exact g_iret B (ty := .int) rfl rfl (Nat.le_of_ble_eq_true rfl) (Nat.le_of_ble_eq_true rfl) dX13_spliceCost_9 ⟨_, rfl, h⟩
def wX13_spliceCostByMemory   (s0 : Mem) (Q : Int32 → Mem → Prop) (E : String → Mem → Prop) : Prop := wX13_spliceCost   s0 (fun (r1 : Int32) (s2 : Mem) => Q r1 s2) E
set_option maxRecDepth 20000 in
set_option maxHeartbeats 4000000 in
theorem oX13_spliceCostByMemory {l : Launch} {x : Ctx} (hl : l.stackTraces = false)     (s0 : Mem) (Q : Int32 → Mem → Prop) (E : String → Mem → Prop) (h : wX13_spliceCostByMemory   s0 Q E) : MetG l x yX13_spliceCostByMemory cX13_spliceCostByMemory 1 (some .int) 3 69 0 0 [.ref (xad x 15 0)] s0 (RI Q) E := by
  refine MetG.of hl (by decide) (Nat.le_of_ble_eq_true rfl) [some (.ref (xad x 15 0))] rfl (fun K B hx _ => ?_)
  subst hx
  unfold wX13_spliceCostByMemory at h
  refine g_aload_n (np := 1) B.1 dX13_spliceCostByMemory_0 rfl rfl ?_
  refine gc_YModel_170 (np := 4) B   (oX13_spliceCost B.1.tr     _ _ _ h) (Nat.le_of_ble_eq_true rfl) (Nat.le_of_ble_eq_true rfl) (Nat.le_of_ble_eq_true rfl) (Nat.le_of_ble_eq_true rfl) (Nat.le_of_ble_eq_true rfl) dX13_spliceCostByMemory_1 rfl (fun r1 s2 h => ?_)
  exact g_iret B (ty := .int) rfl rfl (Nat.le_of_ble_eq_true rfl) (Nat.le_of_ble_eq_true rfl) dX13_spliceCostByMemory_4 ⟨_, rfl, h⟩
def wX13_roving   (s0 : Mem) (Q : Int32 → Mem → Prop) (E : String → Mem → Prop) : Prop := ∀ s1 : Mem, s1 = wr s0 15 0 7 0 → Q (rd s1 10 8 1) s1
set_option maxRecDepth 20000 in
set_option maxHeartbeats 4000000 in
theorem oX13_roving {l : Launch} {x : Ctx} (hl : l.stackTraces = false)     (s0 : Mem) (Q : Int32 → Mem → Prop) (E : String → Mem → Prop) (h : wX13_roving   s0 Q E) : MetG l x yX13_roving cX13_roving 1 (some .int) 0 0 0 0 [.ref (xad x 15 0)] s0 (RI Q) E := by
  refine MetG.of hl (by decide) (Nat.le_of_ble_eq_true rfl) [some (.ref (xad x 15 0))] rfl (fun K B hx _ => ?_)
  subst hx
  unfold wX13_roving at h
  refine g_aload_n (np := 1) B.1 dX13_roving_0 rfl rfl ?_
  refine g_iconst (np := 2) (v := 0) B.1 dX13_roving_1 (by decide) rfl ?_
  refine gp_YModel_44_15 (np := 5) B.1 dX13_roving_2 rfl ?_
  refine g_mem (fun s1 es1 => ?_)
  replace h := h s1 es1
  refine g_aload_n (np := 6) B.1 dX13_roving_5 rfl rfl ?_
  refine gf_YModel_9_15 (np := 9) B.1 dX13_roving_6 rfl ?_
  refine g_iconst (np := 10) (v := 1) B.1 dX13_roving_9 (by decide) rfl ?_
  refine g_ialdL (np := 11) B.1 10 8 (by decide) rfl rfl 1 (by decide) (vpl (by decide)) dX13_roving_10 rfl ?_
  exact g_iret B (ty := .int) rfl rfl (Nat.le_of_ble_eq_true rfl) (Nat.le_of_ble_eq_true rfl) dX13_roving_11 ⟨_, rfl, h⟩
def wX13_machines   (s0 : Mem) (Q : Int32 → Mem → Prop) (E : String → Mem → Prop) : Prop := ∀ s1 : Mem, s1 = wr s0 15 0 7 0 → Q (rd s1 10 8 3) s1
set_option maxRecDepth 20000 in
set_option maxHeartbeats 4000000 in
theorem oX13_machines {l : Launch} {x : Ctx} (hl : l.stackTraces = false)     (s0 : Mem) (Q : Int32 → Mem → Prop) (E : String → Mem → Prop) (h : wX13_machines   s0 Q E) : MetG l x yX13_machines cX13_machines 1 (some .int) 0 0 0 0 [.ref (xad x 15 0)] s0 (RI Q) E := by
  refine MetG.of hl (by decide) (Nat.le_of_ble_eq_true rfl) [some (.ref (xad x 15 0))] rfl (fun K B hx _ => ?_)
  subst hx
  unfold wX13_machines at h
  refine g_aload_n (np := 1) B.1 dX13_machines_0 rfl rfl ?_
  refine g_iconst (np := 2) (v := 0) B.1 dX13_machines_1 (by decide) rfl ?_
  refine gp_YModel_44_15 (np := 5) B.1 dX13_machines_2 rfl ?_
  refine g_mem (fun s1 es1 => ?_)
  replace h := h s1 es1
  refine g_aload_n (np := 6) B.1 dX13_machines_5 rfl rfl ?_
  refine gf_YModel_9_15 (np := 9) B.1 dX13_machines_6 rfl ?_
  refine g_iconst (np := 10) (v := 3) B.1 dX13_machines_9 (by decide) rfl ?_
  refine g_ialdL (np := 11) B.1 10 8 (by decide) rfl rfl 3 (by decide) (vpl (by decide)) dX13_machines_10 rfl ?_
  exact g_iret B (ty := .int) rfl rfl (Nat.le_of_ble_eq_true rfl) (Nat.le_of_ble_eq_true rfl) dX13_machines_11 ⟨_, rfl, h⟩
def wX13_clock   (s0 : Mem) (Q : Int32 → Mem → Prop) (E : String → Mem → Prop) : Prop := ∀ s1 : Mem, s1 = wr s0 15 0 7 0 → Q (rd s1 10 8 2) s1
set_option maxRecDepth 20000 in
set_option maxHeartbeats 4000000 in
theorem oX13_clock {l : Launch} {x : Ctx} (hl : l.stackTraces = false)     (s0 : Mem) (Q : Int32 → Mem → Prop) (E : String → Mem → Prop) (h : wX13_clock   s0 Q E) : MetG l x yX13_clock cX13_clock 1 (some .int) 0 0 0 0 [.ref (xad x 15 0)] s0 (RI Q) E := by
  refine MetG.of hl (by decide) (Nat.le_of_ble_eq_true rfl) [some (.ref (xad x 15 0))] rfl (fun K B hx _ => ?_)
  subst hx
  unfold wX13_clock at h
  refine g_aload_n (np := 1) B.1 dX13_clock_0 rfl rfl ?_
  refine g_iconst (np := 2) (v := 0) B.1 dX13_clock_1 (by decide) rfl ?_
  refine gp_YModel_44_15 (np := 5) B.1 dX13_clock_2 rfl ?_
  refine g_mem (fun s1 es1 => ?_)
  replace h := h s1 es1
  refine g_aload_n (np := 6) B.1 dX13_clock_5 rfl rfl ?_
  refine gf_YModel_9_15 (np := 9) B.1 dX13_clock_6 rfl ?_
  refine g_iconst (np := 10) (v := 2) B.1 dX13_clock_9 (by decide) rfl ?_
  refine g_ialdL (np := 11) B.1 10 8 (by decide) rfl rfl 2 (by decide) (vpl (by decide)) dX13_clock_10 rfl ?_
  exact g_iret B (ty := .int) rfl rfl (Nat.le_of_ble_eq_true rfl) (Nat.le_of_ble_eq_true rfl) dX13_clock_11 ⟨_, rfl, h⟩
def wX13_coins   (s0 : Mem) (Q : Int32 → Mem → Prop) (E : String → Mem → Prop) : Prop := ∀ s1 : Mem, s1 = wr s0 15 0 7 0 → Q (rd s1 10 8 0) s1
set_option maxRecDepth 20000 in
set_option maxHeartbeats 4000000 in
theorem oX13_coins {l : Launch} {x : Ctx} (hl : l.stackTraces = false)     (s0 : Mem) (Q : Int32 → Mem → Prop) (E : String → Mem → Prop) (h : wX13_coins   s0 Q E) : MetG l x yX13_coins cX13_coins 1 (some .int) 0 0 0 0 [.ref (xad x 15 0)] s0 (RI Q) E := by
  refine MetG.of hl (by decide) (Nat.le_of_ble_eq_true rfl) [some (.ref (xad x 15 0))] rfl (fun K B hx _ => ?_)
  subst hx
  unfold wX13_coins at h
  refine g_aload_n (np := 1) B.1 dX13_coins_0 rfl rfl ?_
  refine g_iconst (np := 2) (v := 0) B.1 dX13_coins_1 (by decide) rfl ?_
  refine gp_YModel_44_15 (np := 5) B.1 dX13_coins_2 rfl ?_
  refine g_mem (fun s1 es1 => ?_)
  replace h := h s1 es1
  refine g_aload_n (np := 6) B.1 dX13_coins_5 rfl rfl ?_
  refine gf_YModel_9_15 (np := 9) B.1 dX13_coins_6 rfl ?_
  refine g_iconst (np := 10) (v := 0) B.1 dX13_coins_9 (by decide) rfl ?_
  refine g_ialdL (np := 11) B.1 10 8 (by decide) rfl rfl 0 (by decide) (vpl (by decide)) dX13_coins_10 rfl ?_
  exact g_iret B (ty := .int) rfl rfl (Nat.le_of_ble_eq_true rfl) (Nat.le_of_ble_eq_true rfl) dX13_coins_11 ⟨_, rfl, h⟩
def wX13_coinsByAccounts   (s0 : Mem) (Q : Int32 → Mem → Prop) (E : String → Mem → Prop) : Prop := ∀ s1 : Mem, s1 = wr s0 15 0 7 0 → Q ((1000 - (rd s1 10 8 4)) + (rd s1 10 8 5)) s1
set_option maxRecDepth 20000 in
set_option maxHeartbeats 4000000 in
theorem oX13_coinsByAccounts {l : Launch} {x : Ctx} (hl : l.stackTraces = false)     (s0 : Mem) (Q : Int32 → Mem → Prop) (E : String → Mem → Prop) (h : wX13_coinsByAccounts   s0 Q E) : MetG l x yX13_coinsByAccounts cX13_coinsByAccounts 1 (some .int) 0 0 0 0 [.ref (xad x 15 0)] s0 (RI Q) E := by
  refine MetG.of hl (by decide) (Nat.le_of_ble_eq_true rfl) [some (.ref (xad x 15 0))] rfl (fun K B hx _ => ?_)
  subst hx
  unfold wX13_coinsByAccounts at h
  refine g_aload_n (np := 1) B.1 dX13_coinsByAccounts_0 rfl rfl ?_
  refine g_iconst (np := 2) (v := 0) B.1 dX13_coinsByAccounts_1 (by decide) rfl ?_
  refine gp_YModel_44_15 (np := 5) B.1 dX13_coinsByAccounts_2 rfl ?_
  refine g_mem (fun s1 es1 => ?_)
  replace h := h s1 es1
  refine g_sipush (np := 8) (v := 1000) B.1 dX13_coinsByAccounts_5 (by decide) rfl ?_
  refine g_aload_n (np := 9) B.1 dX13_coinsByAccounts_8 rfl rfl ?_
  refine gf_YModel_9_15 (np := 12) B.1 dX13_coinsByAccounts_9 rfl ?_
  refine g_iconst (np := 13) (v := 4) B.1 dX13_coinsByAccounts_12 (by decide) rfl ?_
  refine g_ialdL (np := 14) B.1 10 8 (by decide) rfl rfl 4 (by decide) (vpl (by decide)) dX13_coinsByAccounts_13 rfl ?_
  refine g_isub (np := 15) B.1 dX13_coinsByAccounts_14 rfl ?_
  refine g_aload_n (np := 16) B.1 dX13_coinsByAccounts_15 rfl rfl ?_
  refine gf_YModel_9_15 (np := 19) B.1 dX13_coinsByAccounts_16 rfl ?_
  refine g_iconst (np := 20) (v := 5) B.1 dX13_coinsByAccounts_19 (by decide) rfl ?_
  refine g_ialdL (np := 21) B.1 10 8 (by decide) rfl rfl 5 (by decide) (vpl (by decide)) dX13_coinsByAccounts_20 rfl ?_
  refine g_iadd (np := 22) B.1 dX13_coinsByAccounts_21 rfl ?_
  exact g_iret B (ty := .int) rfl rfl (Nat.le_of_ble_eq_true rfl) (Nat.le_of_ble_eq_true rfl) dX13_coinsByAccounts_22 ⟨_, rfl, h⟩
def wX13_spunTotal   (s0 : Mem) (Q : Int32 → Mem → Prop) (E : String → Mem → Prop) : Prop := ∀ s1 : Mem, s1 = wr s0 15 0 7 0 → Q (rd s1 10 8 6) s1
set_option maxRecDepth 20000 in
set_option maxHeartbeats 4000000 in
theorem oX13_spunTotal {l : Launch} {x : Ctx} (hl : l.stackTraces = false)     (s0 : Mem) (Q : Int32 → Mem → Prop) (E : String → Mem → Prop) (h : wX13_spunTotal   s0 Q E) : MetG l x yX13_spunTotal cX13_spunTotal 1 (some .int) 0 0 0 0 [.ref (xad x 15 0)] s0 (RI Q) E := by
  refine MetG.of hl (by decide) (Nat.le_of_ble_eq_true rfl) [some (.ref (xad x 15 0))] rfl (fun K B hx _ => ?_)
  subst hx
  unfold wX13_spunTotal at h
  refine g_aload_n (np := 1) B.1 dX13_spunTotal_0 rfl rfl ?_
  refine g_iconst (np := 2) (v := 0) B.1 dX13_spunTotal_1 (by decide) rfl ?_
  refine gp_YModel_44_15 (np := 5) B.1 dX13_spunTotal_2 rfl ?_
  refine g_mem (fun s1 es1 => ?_)
  replace h := h s1 es1
  refine g_aload_n (np := 6) B.1 dX13_spunTotal_5 rfl rfl ?_
  refine gf_YModel_9_15 (np := 9) B.1 dX13_spunTotal_6 rfl ?_
  refine g_bipush (np := 11) (v := 6) B.1 dX13_spunTotal_9 (by decide) rfl ?_
  refine g_ialdL (np := 12) B.1 10 8 (by decide) rfl rfl 6 (by decide) (vpl (by decide)) dX13_spunTotal_11 rfl ?_
  exact g_iret B (ty := .int) rfl rfl (Nat.le_of_ble_eq_true rfl) (Nat.le_of_ble_eq_true rfl) dX13_spunTotal_12 ⟨_, rfl, h⟩
def wX13_wasteTotal   (s0 : Mem) (Q : Int32 → Mem → Prop) (E : String → Mem → Prop) : Prop := ∀ s1 : Mem, s1 = wr s0 15 0 7 0 → Q (rd s1 10 8 7) s1
set_option maxRecDepth 20000 in
set_option maxHeartbeats 4000000 in
theorem oX13_wasteTotal {l : Launch} {x : Ctx} (hl : l.stackTraces = false)     (s0 : Mem) (Q : Int32 → Mem → Prop) (E : String → Mem → Prop) (h : wX13_wasteTotal   s0 Q E) : MetG l x yX13_wasteTotal cX13_wasteTotal 1 (some .int) 0 0 0 0 [.ref (xad x 15 0)] s0 (RI Q) E := by
  refine MetG.of hl (by decide) (Nat.le_of_ble_eq_true rfl) [some (.ref (xad x 15 0))] rfl (fun K B hx _ => ?_)
  subst hx
  unfold wX13_wasteTotal at h
  refine g_aload_n (np := 1) B.1 dX13_wasteTotal_0 rfl rfl ?_
  refine g_iconst (np := 2) (v := 0) B.1 dX13_wasteTotal_1 (by decide) rfl ?_
  refine gp_YModel_44_15 (np := 5) B.1 dX13_wasteTotal_2 rfl ?_
  refine g_mem (fun s1 es1 => ?_)
  replace h := h s1 es1
  refine g_aload_n (np := 6) B.1 dX13_wasteTotal_5 rfl rfl ?_
  refine gf_YModel_9_15 (np := 9) B.1 dX13_wasteTotal_6 rfl ?_
  refine g_bipush (np := 11) (v := 7) B.1 dX13_wasteTotal_9 (by decide) rfl ?_
  refine g_ialdL (np := 12) B.1 10 8 (by decide) rfl rfl 7 (by decide) (vpl (by decide)) dX13_wasteTotal_11 rfl ?_
  exact g_iret B (ty := .int) rfl rfl (Nat.le_of_ble_eq_true rfl) (Nat.le_of_ble_eq_true rfl) dX13_wasteTotal_12 ⟨_, rfl, h⟩
def wX13_soldTotal   (s0 : Mem) (Q : Int32 → Mem → Prop) (E : String → Mem → Prop) : Prop := ∀ s1 : Mem, s1 = wr s0 15 0 7 0 → Q (rd s1 10 8 8) s1
set_option maxRecDepth 20000 in
set_option maxHeartbeats 4000000 in
theorem oX13_soldTotal {l : Launch} {x : Ctx} (hl : l.stackTraces = false)     (s0 : Mem) (Q : Int32 → Mem → Prop) (E : String → Mem → Prop) (h : wX13_soldTotal   s0 Q E) : MetG l x yX13_soldTotal cX13_soldTotal 1 (some .int) 0 0 0 0 [.ref (xad x 15 0)] s0 (RI Q) E := by
  refine MetG.of hl (by decide) (Nat.le_of_ble_eq_true rfl) [some (.ref (xad x 15 0))] rfl (fun K B hx _ => ?_)
  subst hx
  unfold wX13_soldTotal at h
  refine g_aload_n (np := 1) B.1 dX13_soldTotal_0 rfl rfl ?_
  refine g_iconst (np := 2) (v := 0) B.1 dX13_soldTotal_1 (by decide) rfl ?_
  refine gp_YModel_44_15 (np := 5) B.1 dX13_soldTotal_2 rfl ?_
  refine g_mem (fun s1 es1 => ?_)
  replace h := h s1 es1
  refine g_aload_n (np := 6) B.1 dX13_soldTotal_5 rfl rfl ?_
  refine gf_YModel_9_15 (np := 9) B.1 dX13_soldTotal_6 rfl ?_
  refine g_bipush (np := 11) (v := 8) B.1 dX13_soldTotal_9 (by decide) rfl ?_
  refine g_ialdL (np := 12) B.1 10 8 (by decide) rfl rfl 8 (by decide) (vpl (by decide)) dX13_soldTotal_11 rfl ?_
  exact g_iret B (ty := .int) rfl rfl (Nat.le_of_ble_eq_true rfl) (Nat.le_of_ble_eq_true rfl) dX13_soldTotal_12 ⟨_, rfl, h⟩
def wX13_onShelf_4   (Q : Int32 → Mem → Prop) (E : String → Mem → Prop)  (X33 : Int32 → Mem → Prop) : Nat → Int32 → Int32 → Mem → Prop
  | 0, _, _, _ => False
  | n4 + 1, v1, v2, s0 => ((rd s0 10 8 13 ≤ v2 → X33 v1 s0) ∧ (¬ rd s0 10 8 13 ≤ v2 → vp_in (78 + v2) (iaLen 8) ∧ ∀ v1_1 : Int32, v1_1 = (v1 + (rd s0 10 8 (78 + v2).toNatClampNeg)) → ∀ v2_2 : Int32, v2_2 = (v2 + 1) → wX13_onShelf_4   Q E X33 n4 v1_1 v2_2 s0))
def wX13_onShelf   (s0 : Mem) (Q : Int32 → Mem → Prop) (E : String → Mem → Prop) : Prop := ∃ m5 : Nat, wX13_onShelf_4   Q E (fun (x1_3 : Int32) (s4 : Mem) => Q x1_3 s4) m5 0 0  s0
set_option maxRecDepth 20000 in
set_option maxHeartbeats 4000000 in
theorem oX13_onShelf_4 {K : Fr} {Q : Int32 → Mem → Prop} {E : String → Mem → Prop} (B : Bd K cX13_onShelf "YarnMillModel" 3 (some .int) 0 0 0 0 (RI Q) E)    {X33 : Int32 → Mem → Prop} {cells slots : Nat} (hX33 : ∀ (y1 : Int32) (τ : Mem), X33 y1 τ → Go K cells slots τ 33 [none, some (.int y1), none] ([])) (hc : cells ≤ 0) (hs : slots ≤ 0) : ∀ (n : Nat) (v1 : Int32) (v2 : Int32) (s0 : Mem), wX13_onShelf_4   Q E X33 n v1 v2 s0 → Go K cells slots s0 4 [some (.ref (xad (fX K) 15 0)), some (.int v1), some (.int v2)] ([]) := by
  intro n
  induction n with
  | zero => intro v1 v2 s0 h; exact absurd h (by simp [wX13_onShelf_4])
  | succ n ih =>
    intro v1 v2 s0 h
    simp only [wX13_onShelf_4] at h
    refine g_iload_n (np := 5) B.1 dX13_onShelf_4 rfl rfl ?_
    refine g_aload_n (np := 6) B.1 dX13_onShelf_5 rfl rfl ?_
    refine gf_YModel_9_15 (np := 9) B.1 dX13_onShelf_6 rfl ?_
    refine g_bipush (np := 11) (v := 13) B.1 dX13_onShelf_9 (by decide) rfl ?_
    refine g_ialdL (np := 12) B.1 10 8 (by decide) rfl rfl 13 (by decide) (vpl (by decide)) dX13_onShelf_11 rfl ?_
    refine g_icmp_ge (np := 15) (tgt := 33) B.1 dX13_onShelf_12 (by decide) rfl (fun q => ?_) (fun q => ?_)
    · replace h := h.1 q
      refine Go.lle [none, some (.int v1), none] (by simp [lle]) ?_
      exact hX33 v1 s0 h
    · replace h := h.2 q
      refine g_iload_n (np := 16) B.1 dX13_onShelf_15 rfl rfl ?_
      refine g_aload_n (np := 17) B.1 dX13_onShelf_16 rfl rfl ?_
      refine gf_YModel_9_15 (np := 20) B.1 dX13_onShelf_17 rfl ?_
      refine g_bipush (np := 22) (v := 78) B.1 dX13_onShelf_20 (by decide) rfl ?_
      refine g_iload_n (np := 23) B.1 dX13_onShelf_22 rfl rfl ?_
      refine g_iadd (np := 24) B.1 dX13_onShelf_23 rfl ?_
      refine g_iald (np := 25) B.1 10 8 (by decide) rfl rfl h.1 dX13_onShelf_24 rfl ?_
      replace h := h.2
      refine g_iadd (np := 26) B.1 dX13_onShelf_25 rfl ?_
      refine g_topi (fun v1_1 ev1_1 => ?_)
      replace h := h v1_1 ev1_1
      refine g_istore_n (np := 27) (lv' := [some (.ref (xad (fX K) 15 0)), some (.int v1_1), some (.int v2)]) B.1 dX13_onShelf_26 (by decide) rfl rfl rfl ?_
      obtain ⟨v2_2, ev2_2⟩ : ∃ y : Int32, y = v2 + 1 := ⟨_, rfl⟩
      replace h := h v2_2 ev2_2
      refine g_iinc (np := 30) (v := v2_2) (lv' := [some (.ref (xad (fX K) 15 0)), some (.int v1_1), some (.int v2_2)]) B.1 dX13_onShelf_27 rfl (by rw [ev2_2]; rfl) (by decide) rfl rfl rfl ?_
      refine g_goto (tgt := 4) B.1 dX13_onShelf_30 (by decide) ?_
      refine Go.lle [some (.ref (xad (fX K) 15 0)), some (.int v1_1), some (.int v2_2)] (by simp [lle]) ?_
      exact ih v1_1 v2_2 s0 h
set_option maxRecDepth 20000 in
set_option maxHeartbeats 4000000 in
theorem oX13_onShelf {l : Launch} {x : Ctx} (hl : l.stackTraces = false)     (s0 : Mem) (Q : Int32 → Mem → Prop) (E : String → Mem → Prop) (h : wX13_onShelf   s0 Q E) : MetG l x yX13_onShelf cX13_onShelf 3 (some .int) 0 0 0 0 [.ref (xad x 15 0)] s0 (RI Q) E := by
  refine MetG.of hl (by decide) (Nat.le_of_ble_eq_true rfl) [some (.ref (xad x 15 0)), none, none] rfl (fun K B hx _ => ?_)
  subst hx
  unfold wX13_onShelf at h
  refine g_iconst (np := 1) (v := 0) B.1 dX13_onShelf_0 (by decide) rfl ?_
  refine g_istore_n (np := 2) (lv' := [some (.ref (xad (fX K) 15 0)), some (.int 0), none]) B.1 dX13_onShelf_1 (by decide) rfl rfl rfl ?_
  refine g_iconst (np := 3) (v := 0) B.1 dX13_onShelf_2 (by decide) rfl ?_
  refine g_istore_n (np := 4) (lv' := [some (.ref (xad (fX K) 15 0)), some (.int 0), some (.int 0)]) B.1 dX13_onShelf_3 (by decide) rfl rfl rfl ?_
  obtain ⟨m5, h⟩ := h
  refine Go.lle [some (.ref (xad (fX K) 15 0)), some (.int 0), some (.int 0)] (by simp [lle]) ?_
  refine oX13_onShelf_4 B    (fun x1_3 s4 h => ?_) (Nat.le_of_ble_eq_true rfl) (Nat.le_of_ble_eq_true rfl) m5 0 0  s0 h
  refine g_iload_n (np := 34) B.1 dX13_onShelf_33 rfl rfl ?_
  exact g_iret B (ty := .int) rfl rfl (Nat.le_of_ble_eq_true rfl) (Nat.le_of_ble_eq_true rfl) dX13_onShelf_34 ⟨_, rfl, h⟩
def wX13_shelfLength   (s0 : Mem) (Q : Int32 → Mem → Prop) (E : String → Mem → Prop) : Prop := ∀ s1 : Mem, s1 = wr s0 15 0 7 0 → wX13_onShelf   s1 (fun (r2 : Int32) (s3 : Mem) => Q r2 s3) E
set_option maxRecDepth 20000 in
set_option maxHeartbeats 4000000 in
theorem oX13_shelfLength {l : Launch} {x : Ctx} (hl : l.stackTraces = false)     (s0 : Mem) (Q : Int32 → Mem → Prop) (E : String → Mem → Prop) (h : wX13_shelfLength   s0 Q E) : MetG l x yX13_shelfLength cX13_shelfLength 1 (some .int) 1 22 0 0 [.ref (xad x 15 0)] s0 (RI Q) E := by
  refine MetG.of hl (by decide) (Nat.le_of_ble_eq_true rfl) [some (.ref (xad x 15 0))] rfl (fun K B hx _ => ?_)
  subst hx
  unfold wX13_shelfLength at h
  refine g_aload_n (np := 1) B.1 dX13_shelfLength_0 rfl rfl ?_
  refine g_iconst (np := 2) (v := 0) B.1 dX13_shelfLength_1 (by decide) rfl ?_
  refine gp_YModel_44_15 (np := 5) B.1 dX13_shelfLength_2 rfl ?_
  refine g_mem (fun s1 es1 => ?_)
  replace h := h s1 es1
  refine g_aload_n (np := 6) B.1 dX13_shelfLength_5 rfl rfl ?_
  refine gc_YModel_173 (np := 9) B   (oX13_onShelf B.1.tr     _ _ _ h) (Nat.le_of_ble_eq_true rfl) (Nat.le_of_ble_eq_true rfl) (Nat.le_of_ble_eq_true rfl) (Nat.le_of_ble_eq_true rfl) (Nat.le_of_ble_eq_true rfl) dX13_shelfLength_6 rfl (fun r2 s3 h => ?_)
  exact g_iret B (ty := .int) rfl rfl (Nat.le_of_ble_eq_true rfl) (Nat.le_of_ble_eq_true rfl) dX13_shelfLength_9 ⟨_, rfl, h⟩
def wX13_shelfLengthByAccounts   (s0 : Mem) (Q : Int32 → Mem → Prop) (E : String → Mem → Prop) : Prop := ∀ s1 : Mem, s1 = wr s0 15 0 7 0 → Q (((rd s1 10 8 6) - (rd s1 10 8 8)) - (rd s1 10 8 7)) s1
set_option maxRecDepth 20000 in
set_option maxHeartbeats 4000000 in
theorem oX13_shelfLengthByAccounts {l : Launch} {x : Ctx} (hl : l.stackTraces = false)     (s0 : Mem) (Q : Int32 → Mem → Prop) (E : String → Mem → Prop) (h : wX13_shelfLengthByAccounts   s0 Q E) : MetG l x yX13_shelfLengthByAccounts cX13_shelfLengthByAccounts 1 (some .int) 0 0 0 0 [.ref (xad x 15 0)] s0 (RI Q) E := by
  refine MetG.of hl (by decide) (Nat.le_of_ble_eq_true rfl) [some (.ref (xad x 15 0))] rfl (fun K B hx _ => ?_)
  subst hx
  unfold wX13_shelfLengthByAccounts at h
  refine g_aload_n (np := 1) B.1 dX13_shelfLengthByAccounts_0 rfl rfl ?_
  refine g_iconst (np := 2) (v := 0) B.1 dX13_shelfLengthByAccounts_1 (by decide) rfl ?_
  refine gp_YModel_44_15 (np := 5) B.1 dX13_shelfLengthByAccounts_2 rfl ?_
  refine g_mem (fun s1 es1 => ?_)
  replace h := h s1 es1
  refine g_aload_n (np := 6) B.1 dX13_shelfLengthByAccounts_5 rfl rfl ?_
  refine gf_YModel_9_15 (np := 9) B.1 dX13_shelfLengthByAccounts_6 rfl ?_
  refine g_bipush (np := 11) (v := 6) B.1 dX13_shelfLengthByAccounts_9 (by decide) rfl ?_
  refine g_ialdL (np := 12) B.1 10 8 (by decide) rfl rfl 6 (by decide) (vpl (by decide)) dX13_shelfLengthByAccounts_11 rfl ?_
  refine g_aload_n (np := 13) B.1 dX13_shelfLengthByAccounts_12 rfl rfl ?_
  refine gf_YModel_9_15 (np := 16) B.1 dX13_shelfLengthByAccounts_13 rfl ?_
  refine g_bipush (np := 18) (v := 8) B.1 dX13_shelfLengthByAccounts_16 (by decide) rfl ?_
  refine g_ialdL (np := 19) B.1 10 8 (by decide) rfl rfl 8 (by decide) (vpl (by decide)) dX13_shelfLengthByAccounts_18 rfl ?_
  refine g_isub (np := 20) B.1 dX13_shelfLengthByAccounts_19 rfl ?_
  refine g_aload_n (np := 21) B.1 dX13_shelfLengthByAccounts_20 rfl rfl ?_
  refine gf_YModel_9_15 (np := 24) B.1 dX13_shelfLengthByAccounts_21 rfl ?_
  refine g_bipush (np := 26) (v := 7) B.1 dX13_shelfLengthByAccounts_24 (by decide) rfl ?_
  refine g_ialdL (np := 27) B.1 10 8 (by decide) rfl rfl 7 (by decide) (vpl (by decide)) dX13_shelfLengthByAccounts_26 rfl ?_
  refine g_isub (np := 28) B.1 dX13_shelfLengthByAccounts_27 rfl ?_
  exact g_iret B (ty := .int) rfl rfl (Nat.le_of_ble_eq_true rfl) (Nat.le_of_ble_eq_true rfl) dX13_shelfLengthByAccounts_28 ⟨_, rfl, h⟩
def wX13_isConsistent   (s0 : Mem) (Q : Int32 → Mem → Prop) (E : String → Mem → Prop) : Prop := ∀ s1 : Mem, s1 = wr s0 15 0 7 0 → ((¬ rd s1 10 8 0 = (1000 - (rd s1 10 8 4)) + (rd s1 10 8 5) → Q 0 s1) ∧ (rd s1 10 8 0 = (1000 - (rd s1 10 8 4)) + (rd s1 10 8 5) → wX13_onShelf   s1 (fun (r2 : Int32) (s3 : Mem) => ((¬ r2 = ((rd s3 10 8 6) - (rd s3 10 8 8)) - (rd s3 10 8 7) → Q 0 s3) ∧ (r2 = ((rd s3 10 8 6) - (rd s3 10 8 8)) - (rd s3 10 8 7) → Q 1 s3))) E))
set_option maxRecDepth 20000 in
set_option maxHeartbeats 4000000 in
theorem oX13_isConsistent {l : Launch} {x : Ctx} (hl : l.stackTraces = false)     (s0 : Mem) (Q : Int32 → Mem → Prop) (E : String → Mem → Prop) (h : wX13_isConsistent   s0 Q E) : MetG l x yX13_isConsistent cX13_isConsistent 1 (some .boolean) 1 22 0 0 [.ref (xad x 15 0)] s0 (RI Q) E := by
  refine MetG.of hl (by decide) (Nat.le_of_ble_eq_true rfl) [some (.ref (xad x 15 0))] rfl (fun K B hx _ => ?_)
  subst hx
  unfold wX13_isConsistent at h
  refine g_aload_n (np := 1) B.1 dX13_isConsistent_0 rfl rfl ?_
  refine g_iconst (np := 2) (v := 0) B.1 dX13_isConsistent_1 (by decide) rfl ?_
  refine gp_YModel_44_15 (np := 5) B.1 dX13_isConsistent_2 rfl ?_
  refine g_mem (fun s1 es1 => ?_)
  replace h := h s1 es1
  refine g_aload_n (np := 6) B.1 dX13_isConsistent_5 rfl rfl ?_
  refine gf_YModel_9_15 (np := 9) B.1 dX13_isConsistent_6 rfl ?_
  refine g_iconst (np := 10) (v := 0) B.1 dX13_isConsistent_9 (by decide) rfl ?_
  refine g_ialdL (np := 11) B.1 10 8 (by decide) rfl rfl 0 (by decide) (vpl (by decide)) dX13_isConsistent_10 rfl ?_
  refine g_sipush (np := 14) (v := 1000) B.1 dX13_isConsistent_11 (by decide) rfl ?_
  refine g_aload_n (np := 15) B.1 dX13_isConsistent_14 rfl rfl ?_
  refine gf_YModel_9_15 (np := 18) B.1 dX13_isConsistent_15 rfl ?_
  refine g_iconst (np := 19) (v := 4) B.1 dX13_isConsistent_18 (by decide) rfl ?_
  refine g_ialdL (np := 20) B.1 10 8 (by decide) rfl rfl 4 (by decide) (vpl (by decide)) dX13_isConsistent_19 rfl ?_
  refine g_isub (np := 21) B.1 dX13_isConsistent_20 rfl ?_
  refine g_aload_n (np := 22) B.1 dX13_isConsistent_21 rfl rfl ?_
  refine gf_YModel_9_15 (np := 25) B.1 dX13_isConsistent_22 rfl ?_
  refine g_iconst (np := 26) (v := 5) B.1 dX13_isConsistent_25 (by decide) rfl ?_
  refine g_ialdL (np := 27) B.1 10 8 (by decide) rfl rfl 5 (by decide) (vpl (by decide)) dX13_isConsistent_26 rfl ?_
  refine g_iadd (np := 28) B.1 dX13_isConsistent_27 rfl ?_
  refine g_icmp_ne (np := 31) (tgt := 65) B.1 dX13_isConsistent_28 (by decide) rfl (fun q => ?_) (fun q => ?_)
  · replace h := h.1 q
    refine g_iconst (np := 66) (v := 0) B.1 dX13_isConsistent_65 (by decide) rfl ?_
    exact g_iret B (ty := .boolean) rfl (by decide) (Nat.le_of_ble_eq_true rfl) (Nat.le_of_ble_eq_true rfl) dX13_isConsistent_66 ⟨_, rfl, h⟩
  · replace h := h.2 q
    refine g_aload_n (np := 32) B.1 dX13_isConsistent_31 rfl rfl ?_
    refine gc_YModel_173 (np := 35) B   (oX13_onShelf B.1.tr     _ _ _ h) (Nat.le_of_ble_eq_true rfl) (Nat.le_of_ble_eq_true rfl) (Nat.le_of_ble_eq_true rfl) (Nat.le_of_ble_eq_true rfl) (Nat.le_of_ble_eq_true rfl) dX13_isConsistent_32 rfl (fun r2 s3 h => ?_)
    refine g_aload_n (np := 36) B.1 dX13_isConsistent_35 rfl rfl ?_
    refine gf_YModel_9_15 (np := 39) B.1 dX13_isConsistent_36 rfl ?_
    refine g_bipush (np := 41) (v := 6) B.1 dX13_isConsistent_39 (by decide) rfl ?_
    refine g_ialdL (np := 42) B.1 10 8 (by decide) rfl rfl 6 (by decide) (vpl (by decide)) dX13_isConsistent_41 rfl ?_
    refine g_aload_n (np := 43) B.1 dX13_isConsistent_42 rfl rfl ?_
    refine gf_YModel_9_15 (np := 46) B.1 dX13_isConsistent_43 rfl ?_
    refine g_bipush (np := 48) (v := 8) B.1 dX13_isConsistent_46 (by decide) rfl ?_
    refine g_ialdL (np := 49) B.1 10 8 (by decide) rfl rfl 8 (by decide) (vpl (by decide)) dX13_isConsistent_48 rfl ?_
    refine g_isub (np := 50) B.1 dX13_isConsistent_49 rfl ?_
    refine g_aload_n (np := 51) B.1 dX13_isConsistent_50 rfl rfl ?_
    refine gf_YModel_9_15 (np := 54) B.1 dX13_isConsistent_51 rfl ?_
    refine g_bipush (np := 56) (v := 7) B.1 dX13_isConsistent_54 (by decide) rfl ?_
    refine g_ialdL (np := 57) B.1 10 8 (by decide) rfl rfl 7 (by decide) (vpl (by decide)) dX13_isConsistent_56 rfl ?_
    refine g_isub (np := 58) B.1 dX13_isConsistent_57 rfl ?_
    refine g_icmp_ne (np := 61) (tgt := 65) B.1 dX13_isConsistent_58 (by decide) rfl (fun q => ?_) (fun q => ?_)
    · replace h := h.1 q
      refine g_iconst (np := 66) (v := 0) B.1 dX13_isConsistent_65 (by decide) rfl ?_
      exact g_iret B (ty := .boolean) rfl (by decide) (Nat.le_of_ble_eq_true rfl) (Nat.le_of_ble_eq_true rfl) dX13_isConsistent_66 ⟨_, rfl, h⟩
    · replace h := h.2 q
      refine g_iconst (np := 62) (v := 1) B.1 dX13_isConsistent_61 (by decide) rfl ?_
      refine g_goto (tgt := 66) B.1 dX13_isConsistent_62 (by decide) ?_
      exact g_iret B (ty := .boolean) rfl (by decide) (Nat.le_of_ble_eq_true rfl) (Nat.le_of_ble_eq_true rfl) dX13_isConsistent_66 ⟨_, rfl, h⟩
def wX13_puts  (a1 : Int32) (s0 : Mem) (Q : Mem → Prop) (E : String → Mem → Prop) : Prop := vp_in (rd s0 15 0 14) (iaLen 14) ∧ ∀ s1 : Mem, s1 = wr s0 10 14 (rd s0 15 0 14).toNatClampNeg a1 → ∀ s2 : Mem, s2 = wr s1 15 0 14 ((rd s1 15 0 14) + 1) → Q s2
set_option maxRecDepth 20000 in
set_option maxHeartbeats 4000000 in
theorem oX13_puts {l : Launch} {x : Ctx} (hl : l.stackTraces = false)   (a1 : Int32)  (s0 : Mem) (Q : Mem → Prop) (E : String → Mem → Prop) (h : wX13_puts  a1 s0 Q E) : MetG l x yX13_puts cX13_puts 2 none 0 0 0 0 [.ref (xad x 15 0), .int a1] s0 (RV Q) E := by
  refine MetG.of hl (by decide) (Nat.le_of_ble_eq_true rfl) [some (.ref (xad x 15 0)), some (.int a1)] rfl (fun K B hx _ => ?_)
  subst hx
  unfold wX13_puts at h
  refine g_aload_n (np := 1) B.1 dX13_puts_0 rfl rfl ?_
  refine gf_YModel_35_15 (np := 4) B.1 dX13_puts_1 rfl ?_
  refine g_aload_n (np := 5) B.1 dX13_puts_4 rfl rfl ?_
  refine gf_YModel_176_15 (np := 8) B.1 dX13_puts_5 rfl ?_
  refine g_iload_n (np := 9) B.1 dX13_puts_8 rfl rfl ?_
  refine g_iast (np := 10) B.1 10 14 (by decide) rfl (fun _ _ => rfl) h.1 dX13_puts_9 rfl ?_
  replace h := h.2
  refine g_mem (fun s1 es1 => ?_)
  replace h := h s1 es1
  refine g_aload_n (np := 11) B.1 dX13_puts_10 rfl rfl ?_
  refine g_dup (np := 12) B.1 dX13_puts_11 rfl rfl ?_
  refine gf_YModel_176_15 (np := 15) B.1 dX13_puts_12 rfl ?_
  refine g_iconst (np := 16) (v := 1) B.1 dX13_puts_15 (by decide) rfl ?_
  refine g_iadd (np := 17) B.1 dX13_puts_16 rfl ?_
  refine gp_YModel_176_15 (np := 20) B.1 dX13_puts_17 rfl ?_
  refine g_mem (fun s2 es2 => ?_)
  replace h := h s2 es2
  exact g_vret B rfl (Nat.le_of_ble_eq_true rfl) (Nat.le_of_ble_eq_true rfl) dX13_puts_20 ⟨rfl, h⟩
def wX13_number : Nat → Int32 → Mem → (Mem → Prop) → (String → Mem → Prop) → Prop
  | 0, _, _, _, _ => False
  | d + 1, a1, s0, Q, E => ((a1 < 10 → wX13_puts  (48 + (a1 - a1 / 10 * 10)) s0 (fun (s2 : Mem) => Q s2) E) ∧ (¬ a1 < 10 → wX13_number d (a1 / 10) s0 (fun (s4 : Mem) => wX13_puts  (48 + (a1 - a1 / 10 * 10)) s4 (fun (s6 : Mem) => Q s6) E) E))
set_option maxRecDepth 20000 in
set_option maxHeartbeats 4000000 in
theorem oX13_number {l : Launch} {x : Ctx} (hl : l.stackTraces = false) : ∀ (d : Nat) (a1 : Int32) (s0 : Mem) (Q : Mem → Prop) (E : String → Mem → Prop), wX13_number d a1 s0 Q E → MetG l x yX13_number cX13_number 2 none (1 + d) (21 + d * 21) 0 0 [.ref (xad x 15 0), .int a1] s0 (RV Q) E := by
  intro d
  induction d with
  | zero => intro a1 s0 Q E h; exact absurd h (by simp [wX13_number])
  | succ d ih =>
    intro a1 s0 Q E h
    simp only [wX13_number] at h
    refine MetG.of hl (by decide) (Nat.le_of_ble_eq_true rfl) [some (.ref (xad x 15 0)), some (.int a1)] rfl (fun K B hx hl2 => ?_)
    subst hx
    subst hl2
    refine g_iload_n (np := 1) B.1 dX13_number_0 rfl rfl ?_
    refine g_bipush (np := 3) (v := 10) B.1 dX13_number_1 (by decide) rfl ?_
    refine g_icmp_lt (np := 6) (tgt := 14) B.1 dX13_number_3 (by decide) rfl (fun q => ?_) (fun q => ?_)
    · replace h := h.1 q
      refine g_aload_n (np := 15) B.1 dX13_number_14 rfl rfl ?_
      refine g_bipush (np := 17) (v := 48) B.1 dX13_number_15 (by decide) rfl ?_
      refine g_iload_n (np := 18) B.1 dX13_number_17 rfl rfl ?_
      refine g_bipush (np := 20) (v := 10) B.1 dX13_number_18 (by decide) rfl ?_
      refine g_irem (np := 21) B.1 dX13_number_20 (by decide) rfl ?_
      refine g_iadd (np := 22) B.1 dX13_number_21 rfl ?_
      refine gc_YModel_183 (np := 25) B   (oX13_puts B.1.tr   (48 + (a1 - a1 / 10 * 10))  _ _ _ h) (by omega) (by omega) (Nat.le_of_ble_eq_true rfl) (Nat.le_of_ble_eq_true rfl) (Nat.le_of_ble_eq_true rfl) dX13_number_22 rfl (fun s2 h => ?_)
      exact g_vret B rfl (Nat.le_of_ble_eq_true rfl) (Nat.le_of_ble_eq_true rfl) dX13_number_25 ⟨rfl, h⟩
    · replace h := h.2 q
      refine g_aload_n (np := 7) B.1 dX13_number_6 rfl rfl ?_
      refine g_iload_n (np := 8) B.1 dX13_number_7 rfl rfl ?_
      refine g_bipush (np := 10) (v := 10) B.1 dX13_number_8 (by decide) rfl ?_
      refine g_idiv (np := 11) B.1 dX13_number_10 (by decide) rfl ?_
      refine gc_YModel_179 (np := 14) B   (ih (a1 / 10) _ _ _ h) (by omega) (by omega) (Nat.le_of_ble_eq_true rfl) (Nat.le_of_ble_eq_true rfl) (Nat.le_of_ble_eq_true rfl) dX13_number_11 rfl (fun s4 h => ?_)
      refine g_aload_n (np := 15) B.1 dX13_number_14 rfl rfl ?_
      refine g_bipush (np := 17) (v := 48) B.1 dX13_number_15 (by decide) rfl ?_
      refine g_iload_n (np := 18) B.1 dX13_number_17 rfl rfl ?_
      refine g_bipush (np := 20) (v := 10) B.1 dX13_number_18 (by decide) rfl ?_
      refine g_irem (np := 21) B.1 dX13_number_20 (by decide) rfl ?_
      refine g_iadd (np := 22) B.1 dX13_number_21 rfl ?_
      refine gc_YModel_183 (np := 25) B   (oX13_puts B.1.tr   (48 + (a1 - a1 / 10 * 10))  _ _ _ h) (by omega) (by omega) (Nat.le_of_ble_eq_true rfl) (Nat.le_of_ble_eq_true rfl) (Nat.le_of_ble_eq_true rfl) dX13_number_22 rfl (fun s6 h => ?_)
      exact g_vret B rfl (Nat.le_of_ble_eq_true rfl) (Nat.le_of_ble_eq_true rfl) dX13_number_25 ⟨rfl, h⟩
def wX13_renderShelf_12   (Q : Int32 → Mem → Prop) (E : String → Mem → Prop)  (X52 : Mem → Prop) : Nat → Int32 → Mem → Prop
  | 0, _, _ => False
  | n12 + 1, v1, s0 => ((rd s0 10 8 13 ≤ v1 → X52  s0) ∧ (¬ rd s0 10 8 13 ≤ v1 → ((v1 ≤ 0 → vp_in (78 + v1) (iaLen 8) ∧ wX13_number 11 (rd s0 10 8 (78 + v1).toNatClampNeg) s0 (fun (s4 : Mem) => ∀ v1_5 : Int32, v1_5 = (v1 + 1) → wX13_renderShelf_12   Q E X52 n12 v1_5 s4) E) ∧ (¬ v1 ≤ 0 → wX13_puts  45 s0 (fun (s7 : Mem) => vp_in (78 + v1) (iaLen 8) ∧ wX13_number 11 (rd s7 10 8 (78 + v1).toNatClampNeg) s7 (fun (s9 : Mem) => ∀ v1_10 : Int32, v1_10 = (v1 + 1) → wX13_renderShelf_12   Q E X52 n12 v1_10 s9) E) E))))
def wX13_renderShelf   (s0 : Mem) (Q : Int32 → Mem → Prop) (E : String → Mem → Prop) : Prop := ∀ s1 : Mem, s1 = wr s0 15 0 7 0 → ∀ s2 : Mem, s2 = wr s1 15 0 14 0 → ∃ m12 : Nat, wX13_renderShelf_12   Q E (fun (s11 : Mem) => Q (rd s11 15 0 14) s11) m12 0  s2
set_option maxRecDepth 20000 in
set_option maxHeartbeats 4000000 in
theorem oX13_renderShelf_12 {K : Fr} {Q : Int32 → Mem → Prop} {E : String → Mem → Prop} (B : Bd K cX13_renderShelf "YarnMillModel" 2 (some .int) 13 273 0 0 (RI Q) E)    {X52 : Mem → Prop} {cells slots : Nat} (hX52 : ∀ (τ : Mem), X52  τ → Go K cells slots τ 52 [some (.ref (xad (fX K) 15 0)), none] ([])) (hc : cells ≤ 0) (hs : slots ≤ 0) : ∀ (n : Nat) (v1 : Int32) (s0 : Mem), wX13_renderShelf_12   Q E X52 n v1 s0 → Go K cells slots s0 12 [some (.ref (xad (fX K) 15 0)), some (.int v1)] ([]) := by
  intro n
  induction n with
  | zero => intro v1 s0 h; exact absurd h (by simp [wX13_renderShelf_12])
  | succ n ih =>
    intro v1 s0 h
    simp only [wX13_renderShelf_12] at h
    refine g_iload_n (np := 13) B.1 dX13_renderShelf_12 rfl rfl ?_
    refine g_aload_n (np := 14) B.1 dX13_renderShelf_13 rfl rfl ?_
    refine gf_YModel_9_15 (np := 17) B.1 dX13_renderShelf_14 rfl ?_
    refine g_bipush (np := 19) (v := 13) B.1 dX13_renderShelf_17 (by decide) rfl ?_
    refine g_ialdL (np := 20) B.1 10 8 (by decide) rfl rfl 13 (by decide) (vpl (by decide)) dX13_renderShelf_19 rfl ?_
    refine g_icmp_ge (np := 23) (tgt := 52) B.1 dX13_renderShelf_20 (by decide) rfl (fun q => ?_) (fun q => ?_)
    · replace h := h.1 q
      refine Go.lle [some (.ref (xad (fX K) 15 0)), none] (by simp [lle]) ?_
      exact hX52  s0 h
    · replace h := h.2 q
      refine g_iload_n (np := 24) B.1 dX13_renderShelf_23 rfl rfl ?_
      refine g_if_le (np := 27) (tgt := 33) B.1 dX13_renderShelf_24 (by decide) rfl (fun q => ?_) (fun q => ?_)
      · replace h := h.1 q
        refine g_aload_n (np := 34) B.1 dX13_renderShelf_33 rfl rfl ?_
        refine g_aload_n (np := 35) B.1 dX13_renderShelf_34 rfl rfl ?_
        refine gf_YModel_9_15 (np := 38) B.1 dX13_renderShelf_35 rfl ?_
        refine g_bipush (np := 40) (v := 78) B.1 dX13_renderShelf_38 (by decide) rfl ?_
        refine g_iload_n (np := 41) B.1 dX13_renderShelf_40 rfl rfl ?_
        refine g_iadd (np := 42) B.1 dX13_renderShelf_41 rfl ?_
        refine g_iald (np := 43) B.1 10 8 (by decide) rfl rfl h.1 dX13_renderShelf_42 rfl ?_
        replace h := h.2
        refine gc_YModel_179 (np := 46) B   (oX13_number B.1.tr 11 (rd s0 10 8 (78 + v1).toNatClampNeg) _ _ _ h) (Nat.le_of_ble_eq_true rfl) (Nat.le_of_ble_eq_true rfl) (Nat.le_of_ble_eq_true rfl) hc hs dX13_renderShelf_43 rfl (fun s4 h => ?_)
        obtain ⟨v1_5, ev1_5⟩ : ∃ y : Int32, y = v1 + 1 := ⟨_, rfl⟩
        replace h := h v1_5 ev1_5
        refine g_iinc (np := 49) (v := v1_5) (lv' := [some (.ref (xad (fX K) 15 0)), some (.int v1_5)]) B.1 dX13_renderShelf_46 rfl (by rw [ev1_5]; rfl) (by decide) rfl rfl rfl ?_
        refine g_goto (tgt := 12) B.1 dX13_renderShelf_49 (by decide) ?_
        refine Go.lle [some (.ref (xad (fX K) 15 0)), some (.int v1_5)] (by simp [lle]) ?_
        exact ih v1_5 s4 h
      · replace h := h.2 q
        refine g_aload_n (np := 28) B.1 dX13_renderShelf_27 rfl rfl ?_
        refine g_bipush (np := 30) (v := 45) B.1 dX13_renderShelf_28 (by decide) rfl ?_
        refine gc_YModel_183 (np := 33) B   (oX13_puts B.1.tr   45  _ _ _ h) (Nat.le_of_ble_eq_true rfl) (Nat.le_of_ble_eq_true rfl) (Nat.le_of_ble_eq_true rfl) hc hs dX13_renderShelf_30 rfl (fun s7 h => ?_)
        refine g_aload_n (np := 34) B.1 dX13_renderShelf_33 rfl rfl ?_
        refine g_aload_n (np := 35) B.1 dX13_renderShelf_34 rfl rfl ?_
        refine gf_YModel_9_15 (np := 38) B.1 dX13_renderShelf_35 rfl ?_
        refine g_bipush (np := 40) (v := 78) B.1 dX13_renderShelf_38 (by decide) rfl ?_
        refine g_iload_n (np := 41) B.1 dX13_renderShelf_40 rfl rfl ?_
        refine g_iadd (np := 42) B.1 dX13_renderShelf_41 rfl ?_
        refine g_iald (np := 43) B.1 10 8 (by decide) rfl rfl h.1 dX13_renderShelf_42 rfl ?_
        replace h := h.2
        refine gc_YModel_179 (np := 46) B   (oX13_number B.1.tr 11 (rd s7 10 8 (78 + v1).toNatClampNeg) _ _ _ h) (Nat.le_of_ble_eq_true rfl) (Nat.le_of_ble_eq_true rfl) (Nat.le_of_ble_eq_true rfl) hc hs dX13_renderShelf_43 rfl (fun s9 h => ?_)
        obtain ⟨v1_10, ev1_10⟩ : ∃ y : Int32, y = v1 + 1 := ⟨_, rfl⟩
        replace h := h v1_10 ev1_10
        refine g_iinc (np := 49) (v := v1_10) (lv' := [some (.ref (xad (fX K) 15 0)), some (.int v1_10)]) B.1 dX13_renderShelf_46 rfl (by rw [ev1_10]; rfl) (by decide) rfl rfl rfl ?_
        refine g_goto (tgt := 12) B.1 dX13_renderShelf_49 (by decide) ?_
        refine Go.lle [some (.ref (xad (fX K) 15 0)), some (.int v1_10)] (by simp [lle]) ?_
        exact ih v1_10 s9 h
set_option maxRecDepth 20000 in
set_option maxHeartbeats 4000000 in
theorem oX13_renderShelf {l : Launch} {x : Ctx} (hl : l.stackTraces = false)     (s0 : Mem) (Q : Int32 → Mem → Prop) (E : String → Mem → Prop) (h : wX13_renderShelf   s0 Q E) : MetG l x yX13_renderShelf cX13_renderShelf 2 (some .int) 13 273 0 0 [.ref (xad x 15 0)] s0 (RI Q) E := by
  refine MetG.of hl (by decide) (Nat.le_of_ble_eq_true rfl) [some (.ref (xad x 15 0)), none] rfl (fun K B hx _ => ?_)
  subst hx
  unfold wX13_renderShelf at h
  refine g_aload_n (np := 1) B.1 dX13_renderShelf_0 rfl rfl ?_
  refine g_iconst (np := 2) (v := 0) B.1 dX13_renderShelf_1 (by decide) rfl ?_
  refine gp_YModel_44_15 (np := 5) B.1 dX13_renderShelf_2 rfl ?_
  refine g_mem (fun s1 es1 => ?_)
  replace h := h s1 es1
  refine g_aload_n (np := 6) B.1 dX13_renderShelf_5 rfl rfl ?_
  refine g_iconst (np := 7) (v := 0) B.1 dX13_renderShelf_6 (by decide) rfl ?_
  refine gp_YModel_176_15 (np := 10) B.1 dX13_renderShelf_7 rfl ?_
  refine g_mem (fun s2 es2 => ?_)
  replace h := h s2 es2
  refine g_iconst (np := 11) (v := 0) B.1 dX13_renderShelf_10 (by decide) rfl ?_
  refine g_istore_n (np := 12) (lv' := [some (.ref (xad (fX K) 15 0)), some (.int 0)]) B.1 dX13_renderShelf_11 (by decide) rfl rfl rfl ?_
  obtain ⟨m12, h⟩ := h
  refine Go.lle [some (.ref (xad (fX K) 15 0)), some (.int 0)] (by simp [lle]) ?_
  refine oX13_renderShelf_12 B    (fun s11 h => ?_) (Nat.le_of_ble_eq_true rfl) (Nat.le_of_ble_eq_true rfl) m12 0  s2 h
  refine g_aload_n (np := 53) B.1 dX13_renderShelf_52 rfl rfl ?_
  refine gf_YModel_176_15 (np := 56) B.1 dX13_renderShelf_53 rfl ?_
  exact g_iret B (ty := .int) rfl rfl (Nat.le_of_ble_eq_true rfl) (Nat.le_of_ble_eq_true rfl) dX13_renderShelf_56 ⟨_, rfl, h⟩
def wX13_renderOrder_16   (Q : Int32 → Mem → Prop) (E : String → Mem → Prop)   : Int32 → Int32 → Int32 → Mem → Prop := fun v1 v2 z0 s0 => wX13_isThrown  z0 1 s0 (fun (r3 : Int32) (s4 : Mem) => ((r3 = 0 → ∀ s5 : Mem, s5 = wr s4 15 0 14 0 → wX13_number 11 v1 s5 (fun (s7 : Mem) => wX13_puts  58 s7 (fun (s9 : Mem) => wX13_ofOrder  v2 1 s9 (fun (r10 : Int32) (s11 : Mem) => wX13_number 11 r10 s11 (fun (s13 : Mem) => wX13_puts  107 s13 (fun (s15 : Mem) => wX13_puts  109 s15 (fun (s17 : Mem) => wX13_puts  116 s17 (fun (s19 : Mem) => wX13_ofOrder  v2 2 s19 (fun (r20 : Int32) (s21 : Mem) => wX13_number 11 r20 s21 (fun (s23 : Mem) => wX13_mayBeSpun  v2 s23 (fun (r24 : Int32) (s25 : Mem) => ((¬ r24 = 0 → Q (rd s25 15 0 14) s25) ∧ (r24 = 0 → wX13_puts  33 s25 (fun (s27 : Mem) => Q (rd s27 15 0 14) s27) E))) E) E) E) E) E) E) E) E) E) E) ∧ (¬ r3 = 0 → Q 0 s4))) E
def wX13_renderOrder  (a1 : Int32) (s0 : Mem) (Q : Int32 → Mem → Prop) (E : String → Mem → Prop) : Prop := wX13_order  a1 s0 (fun (r1 : Int32) (s2 : Mem) => ((0 ≤ r1 → wX13_renderOrder_16   Q E  a1 r1 0 s2) ∧ (¬ 0 ≤ r1 → wX13_renderOrder_16   Q E  a1 r1 1 s2))) E
set_option maxRecDepth 20000 in
set_option maxHeartbeats 4000000 in
theorem oX13_renderOrder_16 {K : Fr} {Q : Int32 → Mem → Prop} {E : String → Mem → Prop} (B : Bd K cX13_renderOrder "YarnMillModel" 3 (some .int) 13 273 0 0 (RI Q) E)     {cells slots : Nat}  (hc : cells ≤ 0) (hs : slots ≤ 0) : ∀ (v1 : Int32) (v2 : Int32) (z0 : Int32) (s0 : Mem), wX13_renderOrder_16   Q E  v1 v2 z0 s0 → Go K cells slots s0 16 [some (.ref (xad (fX K) 15 0)), some (.int v1), some (.int v2)] (.int z0 :: .ref (xad (fX K) 15 0) :: []) := by
  intro v1 v2 z0 s0 h
  unfold wX13_renderOrder_16 at h
  refine g_iconst (np := 17) (v := 1) B.1 dX13_renderOrder_16 (by decide) rfl ?_
  refine gc_YModel_65 (np := 20) B   (oX13_isThrown B.1.tr   z0 1  _ _ _ h) (Nat.le_of_ble_eq_true rfl) (Nat.le_of_ble_eq_true rfl) (Nat.le_of_ble_eq_true rfl) hc hs dX13_renderOrder_17 rfl (fun r3 s4 h => ?_)
  refine g_if_eq (np := 23) (tgt := 25) B.1 dX13_renderOrder_20 (by decide) rfl (fun q => ?_) (fun q => ?_)
  · replace h := h.1 q
    refine g_aload_n (np := 26) B.1 dX13_renderOrder_25 rfl rfl ?_
    refine g_iconst (np := 27) (v := 0) B.1 dX13_renderOrder_26 (by decide) rfl ?_
    refine gp_YModel_176_15 (np := 30) B.1 dX13_renderOrder_27 rfl ?_
    refine g_mem (fun s5 es5 => ?_)
    replace h := h s5 es5
    refine g_aload_n (np := 31) B.1 dX13_renderOrder_30 rfl rfl ?_
    refine g_iload_n (np := 32) B.1 dX13_renderOrder_31 rfl rfl ?_
    refine gc_YModel_179 (np := 35) B   (oX13_number B.1.tr 11 v1 _ _ _ h) (Nat.le_of_ble_eq_true rfl) (Nat.le_of_ble_eq_true rfl) (Nat.le_of_ble_eq_true rfl) hc hs dX13_renderOrder_32 rfl (fun s7 h => ?_)
    refine g_aload_n (np := 36) B.1 dX13_renderOrder_35 rfl rfl ?_
    refine g_bipush (np := 38) (v := 58) B.1 dX13_renderOrder_36 (by decide) rfl ?_
    refine gc_YModel_183 (np := 41) B   (oX13_puts B.1.tr   58  _ _ _ h) (Nat.le_of_ble_eq_true rfl) (Nat.le_of_ble_eq_true rfl) (Nat.le_of_ble_eq_true rfl) hc hs dX13_renderOrder_38 rfl (fun s9 h => ?_)
    refine g_aload_n (np := 42) B.1 dX13_renderOrder_41 rfl rfl ?_
    refine g_aload_n (np := 43) B.1 dX13_renderOrder_42 rfl rfl ?_
    refine g_iload_n (np := 44) B.1 dX13_renderOrder_43 rfl rfl ?_
    refine g_iconst (np := 45) (v := 1) B.1 dX13_renderOrder_44 (by decide) rfl ?_
    refine gc_YModel_58 (np := 48) B   (oX13_ofOrder B.1.tr   v2 1  _ _ _ h) (Nat.le_of_ble_eq_true rfl) (Nat.le_of_ble_eq_true rfl) (Nat.le_of_ble_eq_true rfl) hc hs dX13_renderOrder_45 rfl (fun r10 s11 h => ?_)
    refine gc_YModel_179 (np := 51) B   (oX13_number B.1.tr 11 r10 _ _ _ h) (Nat.le_of_ble_eq_true rfl) (Nat.le_of_ble_eq_true rfl) (Nat.le_of_ble_eq_true rfl) hc hs dX13_renderOrder_48 rfl (fun s13 h => ?_)
    refine g_aload_n (np := 52) B.1 dX13_renderOrder_51 rfl rfl ?_
    refine g_bipush (np := 54) (v := 107) B.1 dX13_renderOrder_52 (by decide) rfl ?_
    refine gc_YModel_183 (np := 57) B   (oX13_puts B.1.tr   107  _ _ _ h) (Nat.le_of_ble_eq_true rfl) (Nat.le_of_ble_eq_true rfl) (Nat.le_of_ble_eq_true rfl) hc hs dX13_renderOrder_54 rfl (fun s15 h => ?_)
    refine g_aload_n (np := 58) B.1 dX13_renderOrder_57 rfl rfl ?_
    refine g_bipush (np := 60) (v := 109) B.1 dX13_renderOrder_58 (by decide) rfl ?_
    refine gc_YModel_183 (np := 63) B   (oX13_puts B.1.tr   109  _ _ _ h) (Nat.le_of_ble_eq_true rfl) (Nat.le_of_ble_eq_true rfl) (Nat.le_of_ble_eq_true rfl) hc hs dX13_renderOrder_60 rfl (fun s17 h => ?_)
    refine g_aload_n (np := 64) B.1 dX13_renderOrder_63 rfl rfl ?_
    refine g_bipush (np := 66) (v := 116) B.1 dX13_renderOrder_64 (by decide) rfl ?_
    refine gc_YModel_183 (np := 69) B   (oX13_puts B.1.tr   116  _ _ _ h) (Nat.le_of_ble_eq_true rfl) (Nat.le_of_ble_eq_true rfl) (Nat.le_of_ble_eq_true rfl) hc hs dX13_renderOrder_66 rfl (fun s19 h => ?_)
    refine g_aload_n (np := 70) B.1 dX13_renderOrder_69 rfl rfl ?_
    refine g_aload_n (np := 71) B.1 dX13_renderOrder_70 rfl rfl ?_
    refine g_iload_n (np := 72) B.1 dX13_renderOrder_71 rfl rfl ?_
    refine g_iconst (np := 73) (v := 2) B.1 dX13_renderOrder_72 (by decide) rfl ?_
    refine gc_YModel_58 (np := 76) B   (oX13_ofOrder B.1.tr   v2 2  _ _ _ h) (Nat.le_of_ble_eq_true rfl) (Nat.le_of_ble_eq_true rfl) (Nat.le_of_ble_eq_true rfl) hc hs dX13_renderOrder_73 rfl (fun r20 s21 h => ?_)
    refine gc_YModel_179 (np := 79) B   (oX13_number B.1.tr 11 r20 _ _ _ h) (Nat.le_of_ble_eq_true rfl) (Nat.le_of_ble_eq_true rfl) (Nat.le_of_ble_eq_true rfl) hc hs dX13_renderOrder_76 rfl (fun s23 h => ?_)
    refine g_aload_n (np := 80) B.1 dX13_renderOrder_79 rfl rfl ?_
    refine g_iload_n (np := 81) B.1 dX13_renderOrder_80 rfl rfl ?_
    refine gc_YModel_157 (np := 84) B   (oX13_mayBeSpun B.1.tr   v2  _ _ _ h) (Nat.le_of_ble_eq_true rfl) (Nat.le_of_ble_eq_true rfl) (Nat.le_of_ble_eq_true rfl) hc hs dX13_renderOrder_81 rfl (fun r24 s25 h => ?_)
    refine g_if_ne (np := 87) (tgt := 93) B.1 dX13_renderOrder_84 (by decide) rfl (fun q => ?_) (fun q => ?_)
    · replace h := h.1 q
      refine g_aload_n (np := 94) B.1 dX13_renderOrder_93 rfl rfl ?_
      refine gf_YModel_176_15 (np := 97) B.1 dX13_renderOrder_94 rfl ?_
      exact g_iret B (ty := .int) rfl rfl hc hs dX13_renderOrder_97 ⟨_, rfl, h⟩
    · replace h := h.2 q
      refine g_aload_n (np := 88) B.1 dX13_renderOrder_87 rfl rfl ?_
      refine g_bipush (np := 90) (v := 33) B.1 dX13_renderOrder_88 (by decide) rfl ?_
      refine gc_YModel_183 (np := 93) B   (oX13_puts B.1.tr   33  _ _ _ h) (Nat.le_of_ble_eq_true rfl) (Nat.le_of_ble_eq_true rfl) (Nat.le_of_ble_eq_true rfl) hc hs dX13_renderOrder_90 rfl (fun s27 h => ?_)
      refine g_aload_n (np := 94) B.1 dX13_renderOrder_93 rfl rfl ?_
      refine gf_YModel_176_15 (np := 97) B.1 dX13_renderOrder_94 rfl ?_
      exact g_iret B (ty := .int) rfl rfl hc hs dX13_renderOrder_97 ⟨_, rfl, h⟩
  · replace h := h.2 q
    refine g_iconst (np := 24) (v := 0) B.1 dX13_renderOrder_23 (by decide) rfl ?_
    exact g_iret B (ty := .int) rfl rfl hc hs dX13_renderOrder_24 ⟨_, rfl, h⟩
set_option maxRecDepth 20000 in
set_option maxHeartbeats 4000000 in
theorem oX13_renderOrder {l : Launch} {x : Ctx} (hl : l.stackTraces = false)   (a1 : Int32)  (s0 : Mem) (Q : Int32 → Mem → Prop) (E : String → Mem → Prop) (h : wX13_renderOrder  a1 s0 Q E) : MetG l x yX13_renderOrder cX13_renderOrder 3 (some .int) 13 273 0 0 [.ref (xad x 15 0), .int a1] s0 (RI Q) E := by
  refine MetG.of hl (by decide) (Nat.le_of_ble_eq_true rfl) [some (.ref (xad x 15 0)), some (.int a1), none] rfl (fun K B hx _ => ?_)
  subst hx
  unfold wX13_renderOrder at h
  refine g_aload_n (np := 1) B.1 dX13_renderOrder_0 rfl rfl ?_
  refine g_iload_n (np := 2) B.1 dX13_renderOrder_1 rfl rfl ?_
  refine gc_YModel_103 (np := 5) B   (oX13_order B.1.tr   a1  _ _ _ h) (Nat.le_of_ble_eq_true rfl) (Nat.le_of_ble_eq_true rfl) (Nat.le_of_ble_eq_true rfl) (Nat.le_of_ble_eq_true rfl) (Nat.le_of_ble_eq_true rfl) dX13_renderOrder_2 rfl (fun r1 s2 h => ?_)
  refine g_istore_n (np := 6) (lv' := [some (.ref (xad (fX K) 15 0)), some (.int a1), some (.int r1)]) B.1 dX13_renderOrder_5 (by decide) rfl rfl rfl ?_
  refine g_aload_n (np := 7) B.1 dX13_renderOrder_6 rfl rfl ?_
  refine g_iload_n (np := 8) B.1 dX13_renderOrder_7 rfl rfl ?_
  refine g_if_ge (np := 11) (tgt := 15) B.1 dX13_renderOrder_8 (by decide) rfl (fun q => ?_) (fun q => ?_)
  · replace h := h.1 q
    refine g_iconst (np := 16) (v := 0) B.1 dX13_renderOrder_15 (by decide) rfl ?_
    refine Go.lle [some (.ref (xad (fX K) 15 0)), some (.int a1), some (.int r1)] (by simp [lle]) ?_
    refine oX13_renderOrder_16 B     (Nat.le_of_ble_eq_true rfl) (Nat.le_of_ble_eq_true rfl) a1 r1 0 s2 h
  · replace h := h.2 q
    refine g_iconst (np := 12) (v := 1) B.1 dX13_renderOrder_11 (by decide) rfl ?_
    refine g_goto (tgt := 16) B.1 dX13_renderOrder_12 (by decide) ?_
    refine Go.lle [some (.ref (xad (fX K) 15 0)), some (.int a1), some (.int r1)] (by simp [lle]) ?_
    refine oX13_renderOrder_16 B     (Nat.le_of_ble_eq_true rfl) (Nat.le_of_ble_eq_true rfl) a1 r1 1 s2 h
def wX13_outputAt  (a1 : Int32) (s0 : Mem) (Q : Int32 → Mem → Prop) (E : String → Mem → Prop) : Prop := wX13_isIn  a1 0 ((rd s0 15 0 14) - 1) s0 (fun (r1 : Int32) (s2 : Mem) => ((¬ r1 = 0 → wX13_isThrown  0 1 s2 (fun (r3 : Int32) (s4 : Mem) => ((r3 = 0 → vp_in a1 (iaLen 14) ∧ narrow .char (.int (((rd s4 10 14 a1.toNatClampNeg).toUInt32 % 65536).toInt32)) = .int (((rd s4 10 14 a1.toNatClampNeg).toUInt32 % 65536).toInt32) ∧ Q (((rd s4 10 14 a1.toNatClampNeg).toUInt32 % 65536).toInt32) s4) ∧ (¬ r3 = 0 → narrow .char (.int 0) = .int 0 ∧ Q 0 s4))) E) ∧ (r1 = 0 → wX13_isThrown  1 1 s2 (fun (r5 : Int32) (s6 : Mem) => ((r5 = 0 → vp_in a1 (iaLen 14) ∧ narrow .char (.int (((rd s6 10 14 a1.toNatClampNeg).toUInt32 % 65536).toInt32)) = .int (((rd s6 10 14 a1.toNatClampNeg).toUInt32 % 65536).toInt32) ∧ Q (((rd s6 10 14 a1.toNatClampNeg).toUInt32 % 65536).toInt32) s6) ∧ (¬ r5 = 0 → narrow .char (.int 0) = .int 0 ∧ Q 0 s6))) E))) E
set_option maxRecDepth 20000 in
set_option maxHeartbeats 4000000 in
theorem oX13_outputAt {l : Launch} {x : Ctx} (hl : l.stackTraces = false)   (a1 : Int32)  (s0 : Mem) (Q : Int32 → Mem → Prop) (E : String → Mem → Prop) (h : wX13_outputAt  a1 s0 Q E) : MetG l x yX13_outputAt cX13_outputAt 2 (some .char) 1 22 0 0 [.ref (xad x 15 0), .int a1] s0 (RI Q) E := by
  refine MetG.of hl (by decide) (Nat.le_of_ble_eq_true rfl) [some (.ref (xad x 15 0)), some (.int a1)] rfl (fun K B hx _ => ?_)
  subst hx
  unfold wX13_outputAt at h
  refine g_aload_n (np := 1) B.1 dX13_outputAt_0 rfl rfl ?_
  refine g_iload_n (np := 2) B.1 dX13_outputAt_1 rfl rfl ?_
  refine g_iconst (np := 3) (v := 0) B.1 dX13_outputAt_2 (by decide) rfl ?_
  refine g_aload_n (np := 4) B.1 dX13_outputAt_3 rfl rfl ?_
  refine gf_YModel_176_15 (np := 7) B.1 dX13_outputAt_4 rfl ?_
  refine g_iconst (np := 8) (v := 1) B.1 dX13_outputAt_7 (by decide) rfl ?_
  refine g_isub (np := 9) B.1 dX13_outputAt_8 rfl ?_
  refine gc_YModel_61 (np := 12) B   (oX13_isIn B.1.tr   a1 0 ((rd s0 15 0 14) - 1)  _ _ _ h) (Nat.le_of_ble_eq_true rfl) (Nat.le_of_ble_eq_true rfl) (Nat.le_of_ble_eq_true rfl) (Nat.le_of_ble_eq_true rfl) (Nat.le_of_ble_eq_true rfl) dX13_outputAt_9 rfl (fun r1 s2 h => ?_)
  refine g_if_ne (np := 15) (tgt := 19) B.1 dX13_outputAt_12 (by decide) rfl (fun q => ?_) (fun q => ?_)
  · replace h := h.1 q
    refine g_iconst (np := 20) (v := 0) B.1 dX13_outputAt_19 (by decide) rfl ?_
    refine g_iconst (np := 21) (v := 1) B.1 dX13_outputAt_20 (by decide) rfl ?_
    refine gc_YModel_65 (np := 24) B   (oX13_isThrown B.1.tr   0 1  _ _ _ h) (Nat.le_of_ble_eq_true rfl) (Nat.le_of_ble_eq_true rfl) (Nat.le_of_ble_eq_true rfl) (Nat.le_of_ble_eq_true rfl) (Nat.le_of_ble_eq_true rfl) dX13_outputAt_21 rfl (fun r3 s4 h => ?_)
    refine g_if_eq (np := 27) (tgt := 31) B.1 dX13_outputAt_24 (by decide) rfl (fun q => ?_) (fun q => ?_)
    · replace h := h.1 q
      refine g_aload_n (np := 32) B.1 dX13_outputAt_31 rfl rfl ?_
      refine gf_YModel_35_15 (np := 35) B.1 dX13_outputAt_32 rfl ?_
      refine g_iload_n (np := 36) B.1 dX13_outputAt_35 rfl rfl ?_
      refine g_iald (np := 37) B.1 10 14 (by decide) rfl rfl h.1 dX13_outputAt_36 rfl ?_
      replace h := h.2
      refine g_i2c (np := 38) B.1 dX13_outputAt_37 rfl rfl ?_
      exact g_iret B (ty := .char) rfl h.1 (Nat.le_of_ble_eq_true rfl) (Nat.le_of_ble_eq_true rfl) dX13_outputAt_38 ⟨_, rfl, h.2⟩
    · replace h := h.2 q
      refine g_iconst (np := 28) (v := 0) B.1 dX13_outputAt_27 (by decide) rfl ?_
      refine g_goto (tgt := 38) B.1 dX13_outputAt_28 (by decide) ?_
      exact g_iret B (ty := .char) rfl h.1 (Nat.le_of_ble_eq_true rfl) (Nat.le_of_ble_eq_true rfl) dX13_outputAt_38 ⟨_, rfl, h.2⟩
  · replace h := h.2 q
    refine g_iconst (np := 16) (v := 1) B.1 dX13_outputAt_15 (by decide) rfl ?_
    refine g_goto (tgt := 20) B.1 dX13_outputAt_16 (by decide) ?_
    refine g_iconst (np := 21) (v := 1) B.1 dX13_outputAt_20 (by decide) rfl ?_
    refine gc_YModel_65 (np := 24) B   (oX13_isThrown B.1.tr   1 1  _ _ _ h) (Nat.le_of_ble_eq_true rfl) (Nat.le_of_ble_eq_true rfl) (Nat.le_of_ble_eq_true rfl) (Nat.le_of_ble_eq_true rfl) (Nat.le_of_ble_eq_true rfl) dX13_outputAt_21 rfl (fun r5 s6 h => ?_)
    refine g_if_eq (np := 27) (tgt := 31) B.1 dX13_outputAt_24 (by decide) rfl (fun q => ?_) (fun q => ?_)
    · replace h := h.1 q
      refine g_aload_n (np := 32) B.1 dX13_outputAt_31 rfl rfl ?_
      refine gf_YModel_35_15 (np := 35) B.1 dX13_outputAt_32 rfl ?_
      refine g_iload_n (np := 36) B.1 dX13_outputAt_35 rfl rfl ?_
      refine g_iald (np := 37) B.1 10 14 (by decide) rfl rfl h.1 dX13_outputAt_36 rfl ?_
      replace h := h.2
      refine g_i2c (np := 38) B.1 dX13_outputAt_37 rfl rfl ?_
      exact g_iret B (ty := .char) rfl h.1 (Nat.le_of_ble_eq_true rfl) (Nat.le_of_ble_eq_true rfl) dX13_outputAt_38 ⟨_, rfl, h.2⟩
    · replace h := h.2 q
      refine g_iconst (np := 28) (v := 0) B.1 dX13_outputAt_27 (by decide) rfl ?_
      refine g_goto (tgt := 38) B.1 dX13_outputAt_28 (by decide) ?_
      exact g_iret B (ty := .char) rfl h.1 (Nat.le_of_ble_eq_true rfl) (Nat.le_of_ble_eq_true rfl) dX13_outputAt_38 ⟨_, rfl, h.2⟩
def wX13_type_17   (Q : Int32 → Mem → Prop) (E : String → Mem → Prop)   : Int32 → Int32 → Mem → Prop := fun v1 z0 s0 => wX13_isThrown  z0 1 s0 (fun (r3 : Int32) (s4 : Mem) => ((¬ r3 = 0 → Q 0 s4) ∧ (r3 = 0 → ((¬ rd s4 15 0 17 = 60 → wX13_isThrown  0 2 s4 (fun (r5 : Int32) (s6 : Mem) => ((r5 = 0 → vp_in (rd s6 15 0 17) (iaLen 15) ∧ ∀ s7 : Mem, s7 = wr s6 10 15 (rd s6 15 0 17).toNatClampNeg v1 → ∀ s8 : Mem, s8 = wr s7 15 0 17 ((rd s7 15 0 17) + 1) → Q (rd s8 15 0 17) s8) ∧ (¬ r5 = 0 → Q 0 s6))) E) ∧ (rd s4 15 0 17 = 60 → wX13_isThrown  1 2 s4 (fun (r9 : Int32) (s10 : Mem) => ((r9 = 0 → vp_in (rd s10 15 0 17) (iaLen 15) ∧ ∀ s11 : Mem, s11 = wr s10 10 15 (rd s10 15 0 17).toNatClampNeg v1 → ∀ s12 : Mem, s12 = wr s11 15 0 17 ((rd s11 15 0 17) + 1) → Q (rd s12 15 0 17) s12) ∧ (¬ r9 = 0 → Q 0 s10))) E))))) E
def wX13_type  (a1 : Int32) (s0 : Mem) (Q : Int32 → Mem → Prop) (E : String → Mem → Prop) : Prop := wX13_isIn  a1 32 126 s0 (fun (r1 : Int32) (s2 : Mem) => ((¬ r1 = 0 → wX13_type_17   Q E  a1 0 s2) ∧ (r1 = 0 → wX13_type_17   Q E  a1 1 s2))) E
set_option maxRecDepth 20000 in
set_option maxHeartbeats 4000000 in
theorem oX13_type_17 {K : Fr} {Q : Int32 → Mem → Prop} {E : String → Mem → Prop} (B : Bd K cX13_type "YarnMillModel" 2 (some .int) 1 22 0 0 (RI Q) E)     {cells slots : Nat}  (hc : cells ≤ 0) (hs : slots ≤ 0) : ∀ (v1 : Int32) (z0 : Int32) (s0 : Mem), wX13_type_17   Q E  v1 z0 s0 → Go K cells slots s0 17 [some (.ref (xad (fX K) 15 0)), some (.int v1)] (.int z0 :: .ref (xad (fX K) 15 0) :: []) := by
  intro v1 z0 s0 h
  unfold wX13_type_17 at h
  refine g_iconst (np := 18) (v := 1) B.1 dX13_type_17 (by decide) rfl ?_
  refine gc_YModel_65 (np := 21) B   (oX13_isThrown B.1.tr   z0 1  _ _ _ h) (Nat.le_of_ble_eq_true rfl) (Nat.le_of_ble_eq_true rfl) (Nat.le_of_ble_eq_true rfl) hc hs dX13_type_18 rfl (fun r3 s4 h => ?_)
  refine g_if_ne (np := 24) (tgt := 46) B.1 dX13_type_21 (by decide) rfl (fun q => ?_) (fun q => ?_)
  · replace h := h.1 q
    refine g_iconst (np := 47) (v := 0) B.1 dX13_type_46 (by decide) rfl ?_
    exact g_iret B (ty := .int) rfl rfl hc hs dX13_type_47 ⟨_, rfl, h⟩
  · replace h := h.2 q
    refine g_aload_n (np := 25) B.1 dX13_type_24 rfl rfl ?_
    refine g_aload_n (np := 26) B.1 dX13_type_25 rfl rfl ?_
    refine gf_YModel_186_15 (np := 29) B.1 dX13_type_26 rfl ?_
    refine g_bipush (np := 31) (v := 60) B.1 dX13_type_29 (by decide) rfl ?_
    refine g_icmp_ne (np := 34) (tgt := 38) B.1 dX13_type_31 (by decide) rfl (fun q => ?_) (fun q => ?_)
    · replace h := h.1 q
      refine g_iconst (np := 39) (v := 0) B.1 dX13_type_38 (by decide) rfl ?_
      refine g_iconst (np := 40) (v := 2) B.1 dX13_type_39 (by decide) rfl ?_
      refine gc_YModel_65 (np := 43) B   (oX13_isThrown B.1.tr   0 2  _ _ _ h) (Nat.le_of_ble_eq_true rfl) (Nat.le_of_ble_eq_true rfl) (Nat.le_of_ble_eq_true rfl) hc hs dX13_type_40 rfl (fun r5 s6 h => ?_)
      refine g_if_eq (np := 46) (tgt := 48) B.1 dX13_type_43 (by decide) rfl (fun q => ?_) (fun q => ?_)
      · replace h := h.1 q
        refine g_aload_n (np := 49) B.1 dX13_type_48 rfl rfl ?_
        refine gf_YModel_38_15 (np := 52) B.1 dX13_type_49 rfl ?_
        refine g_aload_n (np := 53) B.1 dX13_type_52 rfl rfl ?_
        refine gf_YModel_186_15 (np := 56) B.1 dX13_type_53 rfl ?_
        refine g_iload_n (np := 57) B.1 dX13_type_56 rfl rfl ?_
        refine g_iast (np := 58) B.1 10 15 (by decide) rfl (fun _ _ => rfl) h.1 dX13_type_57 rfl ?_
        replace h := h.2
        refine g_mem (fun s7 es7 => ?_)
        replace h := h s7 es7
        refine g_aload_n (np := 59) B.1 dX13_type_58 rfl rfl ?_
        refine g_dup (np := 60) B.1 dX13_type_59 rfl rfl ?_
        refine gf_YModel_186_15 (np := 63) B.1 dX13_type_60 rfl ?_
        refine g_iconst (np := 64) (v := 1) B.1 dX13_type_63 (by decide) rfl ?_
        refine g_iadd (np := 65) B.1 dX13_type_64 rfl ?_
        refine gp_YModel_186_15 (np := 68) B.1 dX13_type_65 rfl ?_
        refine g_mem (fun s8 es8 => ?_)
        replace h := h s8 es8
        refine g_aload_n (np := 69) B.1 dX13_type_68 rfl rfl ?_
        refine gf_YModel_186_15 (np := 72) B.1 dX13_type_69 rfl ?_
        exact g_iret B (ty := .int) rfl rfl hc hs dX13_type_72 ⟨_, rfl, h⟩
      · replace h := h.2 q
        refine g_iconst (np := 47) (v := 0) B.1 dX13_type_46 (by decide) rfl ?_
        exact g_iret B (ty := .int) rfl rfl hc hs dX13_type_47 ⟨_, rfl, h⟩
    · replace h := h.2 q
      refine g_iconst (np := 35) (v := 1) B.1 dX13_type_34 (by decide) rfl ?_
      refine g_goto (tgt := 39) B.1 dX13_type_35 (by decide) ?_
      refine g_iconst (np := 40) (v := 2) B.1 dX13_type_39 (by decide) rfl ?_
      refine gc_YModel_65 (np := 43) B   (oX13_isThrown B.1.tr   1 2  _ _ _ h) (Nat.le_of_ble_eq_true rfl) (Nat.le_of_ble_eq_true rfl) (Nat.le_of_ble_eq_true rfl) hc hs dX13_type_40 rfl (fun r9 s10 h => ?_)
      refine g_if_eq (np := 46) (tgt := 48) B.1 dX13_type_43 (by decide) rfl (fun q => ?_) (fun q => ?_)
      · replace h := h.1 q
        refine g_aload_n (np := 49) B.1 dX13_type_48 rfl rfl ?_
        refine gf_YModel_38_15 (np := 52) B.1 dX13_type_49 rfl ?_
        refine g_aload_n (np := 53) B.1 dX13_type_52 rfl rfl ?_
        refine gf_YModel_186_15 (np := 56) B.1 dX13_type_53 rfl ?_
        refine g_iload_n (np := 57) B.1 dX13_type_56 rfl rfl ?_
        refine g_iast (np := 58) B.1 10 15 (by decide) rfl (fun _ _ => rfl) h.1 dX13_type_57 rfl ?_
        replace h := h.2
        refine g_mem (fun s11 es11 => ?_)
        replace h := h s11 es11
        refine g_aload_n (np := 59) B.1 dX13_type_58 rfl rfl ?_
        refine g_dup (np := 60) B.1 dX13_type_59 rfl rfl ?_
        refine gf_YModel_186_15 (np := 63) B.1 dX13_type_60 rfl ?_
        refine g_iconst (np := 64) (v := 1) B.1 dX13_type_63 (by decide) rfl ?_
        refine g_iadd (np := 65) B.1 dX13_type_64 rfl ?_
        refine gp_YModel_186_15 (np := 68) B.1 dX13_type_65 rfl ?_
        refine g_mem (fun s12 es12 => ?_)
        replace h := h s12 es12
        refine g_aload_n (np := 69) B.1 dX13_type_68 rfl rfl ?_
        refine gf_YModel_186_15 (np := 72) B.1 dX13_type_69 rfl ?_
        exact g_iret B (ty := .int) rfl rfl hc hs dX13_type_72 ⟨_, rfl, h⟩
      · replace h := h.2 q
        refine g_iconst (np := 47) (v := 0) B.1 dX13_type_46 (by decide) rfl ?_
        exact g_iret B (ty := .int) rfl rfl hc hs dX13_type_47 ⟨_, rfl, h⟩
set_option maxRecDepth 20000 in
set_option maxHeartbeats 4000000 in
theorem oX13_type {l : Launch} {x : Ctx} (hl : l.stackTraces = false)   (a1 : Int32)  (s0 : Mem) (Q : Int32 → Mem → Prop) (E : String → Mem → Prop) (h : wX13_type  a1 s0 Q E) : MetG l x yX13_type cX13_type 2 (some .int) 1 22 0 0 [.ref (xad x 15 0), .int a1] s0 (RI Q) E := by
  refine MetG.of hl (by decide) (Nat.le_of_ble_eq_true rfl) [some (.ref (xad x 15 0)), some (.int a1)] rfl (fun K B hx _ => ?_)
  subst hx
  unfold wX13_type at h
  refine g_aload_n (np := 1) B.1 dX13_type_0 rfl rfl ?_
  refine g_iload_n (np := 2) B.1 dX13_type_1 rfl rfl ?_
  refine g_bipush (np := 4) (v := 32) B.1 dX13_type_2 (by decide) rfl ?_
  refine g_bipush (np := 6) (v := 126) B.1 dX13_type_4 (by decide) rfl ?_
  refine gc_YModel_61 (np := 9) B   (oX13_isIn B.1.tr   a1 32 126  _ _ _ h) (Nat.le_of_ble_eq_true rfl) (Nat.le_of_ble_eq_true rfl) (Nat.le_of_ble_eq_true rfl) (Nat.le_of_ble_eq_true rfl) (Nat.le_of_ble_eq_true rfl) dX13_type_6 rfl (fun r1 s2 h => ?_)
  refine g_if_ne (np := 12) (tgt := 16) B.1 dX13_type_9 (by decide) rfl (fun q => ?_) (fun q => ?_)
  · replace h := h.1 q
    refine g_iconst (np := 17) (v := 0) B.1 dX13_type_16 (by decide) rfl ?_
    refine Go.lle [some (.ref (xad (fX K) 15 0)), some (.int a1)] (by simp [lle]) ?_
    refine oX13_type_17 B     (Nat.le_of_ble_eq_true rfl) (Nat.le_of_ble_eq_true rfl) a1 0 s2 h
  · replace h := h.2 q
    refine g_iconst (np := 13) (v := 1) B.1 dX13_type_12 (by decide) rfl ?_
    refine g_goto (tgt := 17) B.1 dX13_type_13 (by decide) ?_
    refine Go.lle [some (.ref (xad (fX K) 15 0)), some (.int a1)] (by simp [lle]) ?_
    refine oX13_type_17 B     (Nat.le_of_ble_eq_true rfl) (Nat.le_of_ble_eq_true rfl) a1 1 s2 h
def wX13_now   (s0 : Mem) (Q : Int32 → Mem → Prop) (E : String → Mem → Prop) : Prop := ((rd s0 15 0 17 ≤ rd s0 15 0 18 → Q ((-1)) s0) ∧ (¬ rd s0 15 0 17 ≤ rd s0 15 0 18 → vp_in (rd s0 15 0 18) (iaLen 15) ∧ Q (rd s0 10 15 (rd s0 15 0 18).toNatClampNeg) s0))
set_option maxRecDepth 20000 in
set_option maxHeartbeats 4000000 in
theorem oX13_now {l : Launch} {x : Ctx} (hl : l.stackTraces = false)     (s0 : Mem) (Q : Int32 → Mem → Prop) (E : String → Mem → Prop) (h : wX13_now   s0 Q E) : MetG l x yX13_now cX13_now 1 (some .int) 0 0 0 0 [.ref (xad x 15 0)] s0 (RI Q) E := by
  refine MetG.of hl (by decide) (Nat.le_of_ble_eq_true rfl) [some (.ref (xad x 15 0))] rfl (fun K B hx _ => ?_)
  subst hx
  unfold wX13_now at h
  refine g_aload_n (np := 1) B.1 dX13_now_0 rfl rfl ?_
  refine gf_YModel_189_15 (np := 4) B.1 dX13_now_1 rfl ?_
  refine g_aload_n (np := 5) B.1 dX13_now_4 rfl rfl ?_
  refine gf_YModel_186_15 (np := 8) B.1 dX13_now_5 rfl ?_
  refine g_icmp_ge (np := 11) (tgt := 23) B.1 dX13_now_8 (by decide) rfl (fun q => ?_) (fun q => ?_)
  · replace h := h.1 q
    refine g_iconst (np := 24) (v := (-1)) B.1 dX13_now_23 (by decide) rfl ?_
    exact g_iret B (ty := .int) rfl rfl (Nat.le_of_ble_eq_true rfl) (Nat.le_of_ble_eq_true rfl) dX13_now_24 ⟨_, rfl, h⟩
  · replace h := h.2 q
    refine g_aload_n (np := 12) B.1 dX13_now_11 rfl rfl ?_
    refine gf_YModel_38_15 (np := 15) B.1 dX13_now_12 rfl ?_
    refine g_aload_n (np := 16) B.1 dX13_now_15 rfl rfl ?_
    refine gf_YModel_189_15 (np := 19) B.1 dX13_now_16 rfl ?_
    refine g_iald (np := 20) B.1 10 15 (by decide) rfl rfl h.1 dX13_now_19 rfl ?_
    replace h := h.2
    refine g_goto (tgt := 24) B.1 dX13_now_20 (by decide) ?_
    exact g_iret B (ty := .int) rfl rfl (Nat.le_of_ble_eq_true rfl) (Nat.le_of_ble_eq_true rfl) dX13_now_24 ⟨_, rfl, h⟩
def wX13_isSign  (a1 : Int32) (s0 : Mem) (Q : Int32 → Mem → Prop) (E : String → Mem → Prop) : Prop := wX13_now   s0 (fun (r1 : Int32) (s2 : Mem) => ((¬ r1 = a1 → ∀ s3 : Mem, s3 = wr s2 15 0 18 ((rd s2 15 0 18) + 0) → Q 0 s3) ∧ (r1 = a1 → ∀ s4 : Mem, s4 = wr s2 15 0 18 ((rd s2 15 0 18) + 1) → Q 1 s4))) E
set_option maxRecDepth 20000 in
set_option maxHeartbeats 4000000 in
theorem oX13_isSign {l : Launch} {x : Ctx} (hl : l.stackTraces = false)   (a1 : Int32)  (s0 : Mem) (Q : Int32 → Mem → Prop) (E : String → Mem → Prop) (h : wX13_isSign  a1 s0 Q E) : MetG l x yX13_isSign cX13_isSign 3 (some .boolean) 1 20 0 0 [.ref (xad x 15 0), .int a1] s0 (RI Q) E := by
  refine MetG.of hl (by decide) (Nat.le_of_ble_eq_true rfl) [some (.ref (xad x 15 0)), some (.int a1), none] rfl (fun K B hx _ => ?_)
  subst hx
  unfold wX13_isSign at h
  refine g_aload_n (np := 1) B.1 dX13_isSign_0 rfl rfl ?_
  refine gc_YModel_192 (np := 4) B   (oX13_now B.1.tr     _ _ _ h) (Nat.le_of_ble_eq_true rfl) (Nat.le_of_ble_eq_true rfl) (Nat.le_of_ble_eq_true rfl) (Nat.le_of_ble_eq_true rfl) (Nat.le_of_ble_eq_true rfl) dX13_isSign_1 rfl (fun r1 s2 h => ?_)
  refine g_iload_n (np := 5) B.1 dX13_isSign_4 rfl rfl ?_
  refine g_icmp_ne (np := 8) (tgt := 12) B.1 dX13_isSign_5 (by decide) rfl (fun q => ?_) (fun q => ?_)
  · replace h := h.1 q
    refine g_iconst (np := 13) (v := 0) B.1 dX13_isSign_12 (by decide) rfl ?_
    refine g_istore_n (np := 14) (lv' := [some (.ref (xad (fX K) 15 0)), some (.int a1), some (.int 0)]) B.1 dX13_isSign_13 (by decide) rfl rfl rfl ?_
    refine g_aload_n (np := 15) B.1 dX13_isSign_14 rfl rfl ?_
    refine g_dup (np := 16) B.1 dX13_isSign_15 rfl rfl ?_
    refine gf_YModel_189_15 (np := 19) B.1 dX13_isSign_16 rfl ?_
    refine g_iload_n (np := 20) B.1 dX13_isSign_19 rfl rfl ?_
    refine g_if_eq (np := 23) (tgt := 27) B.1 dX13_isSign_20 (by decide) rfl (fun _ => ?_) (fun q => absurd (by decide) q)
    refine g_iconst (np := 28) (v := 0) B.1 dX13_isSign_27 (by decide) rfl ?_
    refine g_iadd (np := 29) B.1 dX13_isSign_28 rfl ?_
    refine gp_YModel_189_15 (np := 32) B.1 dX13_isSign_29 rfl ?_
    refine g_mem (fun s3 es3 => ?_)
    replace h := h s3 es3
    refine g_iload_n (np := 33) B.1 dX13_isSign_32 rfl rfl ?_
    exact g_iret B (ty := .boolean) rfl (by decide) (Nat.le_of_ble_eq_true rfl) (Nat.le_of_ble_eq_true rfl) dX13_isSign_33 ⟨_, rfl, h⟩
  · replace h := h.2 q
    refine g_iconst (np := 9) (v := 1) B.1 dX13_isSign_8 (by decide) rfl ?_
    refine g_goto (tgt := 13) B.1 dX13_isSign_9 (by decide) ?_
    refine g_istore_n (np := 14) (lv' := [some (.ref (xad (fX K) 15 0)), some (.int a1), some (.int 1)]) B.1 dX13_isSign_13 (by decide) rfl rfl rfl ?_
    refine g_aload_n (np := 15) B.1 dX13_isSign_14 rfl rfl ?_
    refine g_dup (np := 16) B.1 dX13_isSign_15 rfl rfl ?_
    refine gf_YModel_189_15 (np := 19) B.1 dX13_isSign_16 rfl ?_
    refine g_iload_n (np := 20) B.1 dX13_isSign_19 rfl rfl ?_
    refine g_if_eq (np := 23) (tgt := 27) B.1 dX13_isSign_20 (by decide) rfl (fun q => absurd q (by decide)) (fun _ => ?_)
    refine g_iconst (np := 24) (v := 1) B.1 dX13_isSign_23 (by decide) rfl ?_
    refine g_goto (tgt := 28) B.1 dX13_isSign_24 (by decide) ?_
    refine g_iadd (np := 29) B.1 dX13_isSign_28 rfl ?_
    refine gp_YModel_189_15 (np := 32) B.1 dX13_isSign_29 rfl ?_
    refine g_mem (fun s4 es4 => ?_)
    replace h := h s4 es4
    refine g_iload_n (np := 33) B.1 dX13_isSign_32 rfl rfl ?_
    exact g_iret B (ty := .boolean) rfl (by decide) (Nat.le_of_ble_eq_true rfl) (Nat.le_of_ble_eq_true rfl) dX13_isSign_33 ⟨_, rfl, h⟩
def wX13_isSpaced_16   (Q : Int32 → Mem → Prop) (E : String → Mem → Prop)  (X65 : Int32 → Int32 → Int32 → Mem → Prop) : Nat → Int32 → Int32 → Int32 → Int32 → Mem → Prop
  | 0, _, _, _, _, _ => False
  | n16 + 1, v1, v2, v3, v4, s0 => ((v1 ≤ v4 → X65 v2 v3 v4 s0) ∧ (¬ v1 ≤ v4 → wX13_now   s0 (fun (r3 : Int32) (s4 : Mem) => wX13_isIn  r3 48 57 s4 (fun (r5 : Int32) (s6 : Mem) => ((r5 = 0 → X65 v2 v3 v4 s6) ∧ (¬ r5 = 0 → wX13_now   s6 (fun (r7 : Int32) (s8 : Mem) => ∀ v3_9 : Int32, v3_9 = (((10 * v3) + r7) - 48) → ∀ s10 : Mem, s10 = wr s8 15 0 18 ((rd s8 15 0 18) + 1) → ∀ v4_11 : Int32, v4_11 = (v4 + 1) → wX13_isSpaced_16   Q E X65 n16 v1 v2 v3_9 v4_11 s10) E))) E) E))
def wX13_isSpaced  (a1 : Int32) (a2 : Int32) (s0 : Mem) (Q : Int32 → Mem → Prop) (E : String → Mem → Prop) : Prop := wX13_isSign  32 s0 (fun (r1 : Int32) (s2 : Mem) => ((¬ r1 = 0 → ∃ m17 : Nat, wX13_isSpaced_16   Q E (fun (x2_12 : Int32) (x3_13 : Int32) (x4_14 : Int32) (s15 : Mem) => vp_in x2_12 (iaLen 16) ∧ ∀ s16 : Mem, s16 = wr s15 10 16 x2_12.toNatClampNeg x3_13 → ((x4_14 ≤ 0 → Q 0 s16) ∧ (¬ x4_14 ≤ 0 → Q 1 s16))) m17 a1 a2 0 0  s2) ∧ (r1 = 0 → Q 0 s2))) E
set_option maxRecDepth 20000 in
set_option maxHeartbeats 4000000 in
theorem oX13_isSpaced_16 {K : Fr} {Q : Int32 → Mem → Prop} {E : String → Mem → Prop} (B : Bd K cX13_isSpaced "YarnMillModel" 5 (some .boolean) 2 42 0 0 (RI Q) E)    {X65 : Int32 → Int32 → Int32 → Mem → Prop} {cells slots : Nat} (hX65 : ∀ (y2 : Int32) (y3 : Int32) (y4 : Int32) (τ : Mem), X65 y2 y3 y4 τ → Go K cells slots τ 65 [some (.ref (xad (fX K) 15 0)), none, some (.int y2), some (.int y3), some (.int y4)] ([])) (hc : cells ≤ 0) (hs : slots ≤ 0) : ∀ (n : Nat) (v1 : Int32) (v2 : Int32) (v3 : Int32) (v4 : Int32) (s0 : Mem), wX13_isSpaced_16   Q E X65 n v1 v2 v3 v4 s0 → Go K cells slots s0 16 [some (.ref (xad (fX K) 15 0)), some (.int v1), some (.int v2), some (.int v3), some (.int v4)] ([]) := by
  intro n
  induction n with
  | zero => intro v1 v2 v3 v4 s0 h; exact absurd h (by simp [wX13_isSpaced_16])
  | succ n ih =>
    intro v1 v2 v3 v4 s0 h
    simp only [wX13_isSpaced_16] at h
    refine g_iload (np := 18) B.1 dX13_isSpaced_16 rfl rfl ?_
    refine g_iload_n (np := 19) B.1 dX13_isSpaced_18 rfl rfl ?_
    refine g_icmp_ge (np := 22) (tgt := 65) B.1 dX13_isSpaced_19 (by decide) rfl (fun q => ?_) (fun q => ?_)
    · replace h := h.1 q
      refine Go.lle [some (.ref (xad (fX K) 15 0)), none, some (.int v2), some (.int v3), some (.int v4)] (by simp [lle]) ?_
      exact hX65 v2 v3 v4 s0 h
    · replace h := h.2 q
      refine g_aload_n (np := 23) B.1 dX13_isSpaced_22 rfl rfl ?_
      refine gc_YModel_192 (np := 26) B   (oX13_now B.1.tr     _ _ _ h) (Nat.le_of_ble_eq_true rfl) (Nat.le_of_ble_eq_true rfl) (Nat.le_of_ble_eq_true rfl) hc hs dX13_isSpaced_23 rfl (fun r3 s4 h => ?_)
      refine g_bipush (np := 28) (v := 48) B.1 dX13_isSpaced_26 (by decide) rfl ?_
      refine g_bipush (np := 30) (v := 57) B.1 dX13_isSpaced_28 (by decide) rfl ?_
      refine gc_YModel_61 (np := 33) B   (oX13_isIn B.1.tr   r3 48 57  _ _ _ h) (Nat.le_of_ble_eq_true rfl) (Nat.le_of_ble_eq_true rfl) (Nat.le_of_ble_eq_true rfl) hc hs dX13_isSpaced_30 rfl (fun r5 s6 h => ?_)
      refine g_if_eq (np := 36) (tgt := 65) B.1 dX13_isSpaced_33 (by decide) rfl (fun q => ?_) (fun q => ?_)
      · replace h := h.1 q
        refine Go.lle [some (.ref (xad (fX K) 15 0)), none, some (.int v2), some (.int v3), some (.int v4)] (by simp [lle]) ?_
        exact hX65 v2 v3 v4 s6 h
      · replace h := h.2 q
        refine g_bipush (np := 38) (v := 10) B.1 dX13_isSpaced_36 (by decide) rfl ?_
        refine g_iload_n (np := 39) B.1 dX13_isSpaced_38 rfl rfl ?_
        refine g_imul (np := 40) B.1 dX13_isSpaced_39 rfl ?_
        refine g_aload_n (np := 41) B.1 dX13_isSpaced_40 rfl rfl ?_
        refine gc_YModel_192 (np := 44) B   (oX13_now B.1.tr     _ _ _ h) (Nat.le_of_ble_eq_true rfl) (Nat.le_of_ble_eq_true rfl) (Nat.le_of_ble_eq_true rfl) hc hs dX13_isSpaced_41 rfl (fun r7 s8 h => ?_)
        refine g_iadd (np := 45) B.1 dX13_isSpaced_44 rfl ?_
        refine g_bipush (np := 47) (v := 48) B.1 dX13_isSpaced_45 (by decide) rfl ?_
        refine g_isub (np := 48) B.1 dX13_isSpaced_47 rfl ?_
        refine g_topi (fun v3_9 ev3_9 => ?_)
        replace h := h v3_9 ev3_9
        refine g_istore_n (np := 49) (lv' := [some (.ref (xad (fX K) 15 0)), some (.int v1), some (.int v2), some (.int v3_9), some (.int v4)]) B.1 dX13_isSpaced_48 (by decide) rfl rfl rfl ?_
        refine g_aload_n (np := 50) B.1 dX13_isSpaced_49 rfl rfl ?_
        refine g_dup (np := 51) B.1 dX13_isSpaced_50 rfl rfl ?_
        refine gf_YModel_189_15 (np := 54) B.1 dX13_isSpaced_51 rfl ?_
        refine g_iconst (np := 55) (v := 1) B.1 dX13_isSpaced_54 (by decide) rfl ?_
        refine g_iadd (np := 56) B.1 dX13_isSpaced_55 rfl ?_
        refine gp_YModel_189_15 (np := 59) B.1 dX13_isSpaced_56 rfl ?_
        refine g_mem (fun s10 es10 => ?_)
        replace h := h s10 es10
        obtain ⟨v4_11, ev4_11⟩ : ∃ y : Int32, y = v4 + 1 := ⟨_, rfl⟩
        replace h := h v4_11 ev4_11
        refine g_iinc (np := 62) (v := v4_11) (lv' := [some (.ref (xad (fX K) 15 0)), some (.int v1), some (.int v2), some (.int v3_9), some (.int v4_11)]) B.1 dX13_isSpaced_59 rfl (by rw [ev4_11]; rfl) (by decide) rfl rfl rfl ?_
        refine g_goto (tgt := 16) B.1 dX13_isSpaced_62 (by decide) ?_
        refine Go.lle [some (.ref (xad (fX K) 15 0)), some (.int v1), some (.int v2), some (.int v3_9), some (.int v4_11)] (by simp [lle]) ?_
        exact ih v1 v2 v3_9 v4_11 s10 h
set_option maxRecDepth 20000 in
set_option maxHeartbeats 4000000 in
theorem oX13_isSpaced {l : Launch} {x : Ctx} (hl : l.stackTraces = false)   (a1 : Int32) (a2 : Int32)  (s0 : Mem) (Q : Int32 → Mem → Prop) (E : String → Mem → Prop) (h : wX13_isSpaced  a1 a2 s0 Q E) : MetG l x yX13_isSpaced cX13_isSpaced 5 (some .boolean) 2 42 0 0 [.ref (xad x 15 0), .int a1, .int a2] s0 (RI Q) E := by
  refine MetG.of hl (by decide) (Nat.le_of_ble_eq_true rfl) [some (.ref (xad x 15 0)), some (.int a1), some (.int a2), none, none] rfl (fun K B hx _ => ?_)
  subst hx
  unfold wX13_isSpaced at h
  refine g_aload_n (np := 1) B.1 dX13_isSpaced_0 rfl rfl ?_
  refine g_bipush (np := 3) (v := 32) B.1 dX13_isSpaced_1 (by decide) rfl ?_
  refine gc_YModel_195 (np := 6) B   (oX13_isSign B.1.tr   32  _ _ _ h) (Nat.le_of_ble_eq_true rfl) (Nat.le_of_ble_eq_true rfl) (Nat.le_of_ble_eq_true rfl) (Nat.le_of_ble_eq_true rfl) (Nat.le_of_ble_eq_true rfl) dX13_isSpaced_3 rfl (fun r1 s2 h => ?_)
  refine g_if_ne (np := 9) (tgt := 11) B.1 dX13_isSpaced_6 (by decide) rfl (fun q => ?_) (fun q => ?_)
  · replace h := h.1 q
    refine g_iconst (np := 12) (v := 0) B.1 dX13_isSpaced_11 (by decide) rfl ?_
    refine g_istore_n (np := 13) (lv' := [some (.ref (xad (fX K) 15 0)), some (.int a1), some (.int a2), some (.int 0), none]) B.1 dX13_isSpaced_12 (by decide) rfl rfl rfl ?_
    refine g_iconst (np := 14) (v := 0) B.1 dX13_isSpaced_13 (by decide) rfl ?_
    refine g_istore (np := 16) (lv' := [some (.ref (xad (fX K) 15 0)), some (.int a1), some (.int a2), some (.int 0), some (.int 0)]) B.1 dX13_isSpaced_14 (by decide) rfl rfl rfl ?_
    obtain ⟨m17, h⟩ := h
    refine Go.lle [some (.ref (xad (fX K) 15 0)), some (.int a1), some (.int a2), some (.int 0), some (.int 0)] (by simp [lle]) ?_
    refine oX13_isSpaced_16 B    (fun x2_12 x3_13 x4_14 s15 h => ?_) (Nat.le_of_ble_eq_true rfl) (Nat.le_of_ble_eq_true rfl) m17 a1 a2 0 0  s2 h
    refine g_aload_n (np := 66) B.1 dX13_isSpaced_65 rfl rfl ?_
    refine gf_YModel_41_15 (np := 69) B.1 dX13_isSpaced_66 rfl ?_
    refine g_iload_n (np := 70) B.1 dX13_isSpaced_69 rfl rfl ?_
    refine g_iload_n (np := 71) B.1 dX13_isSpaced_70 rfl rfl ?_
    refine g_iast (np := 72) B.1 10 16 (by decide) rfl (fun _ _ => rfl) h.1 dX13_isSpaced_71 rfl ?_
    replace h := h.2
    refine g_mem (fun s16 es16 => ?_)
    replace h := h s16 es16
    refine g_iload (np := 74) B.1 dX13_isSpaced_72 rfl rfl ?_
    refine g_if_le (np := 77) (tgt := 81) B.1 dX13_isSpaced_74 (by decide) rfl (fun q => ?_) (fun q => ?_)
    · replace h := h.1 q
      refine g_iconst (np := 82) (v := 0) B.1 dX13_isSpaced_81 (by decide) rfl ?_
      exact g_iret B (ty := .boolean) rfl (by decide) (Nat.le_of_ble_eq_true rfl) (Nat.le_of_ble_eq_true rfl) dX13_isSpaced_82 ⟨_, rfl, h⟩
    · replace h := h.2 q
      refine g_iconst (np := 78) (v := 1) B.1 dX13_isSpaced_77 (by decide) rfl ?_
      refine g_goto (tgt := 82) B.1 dX13_isSpaced_78 (by decide) ?_
      exact g_iret B (ty := .boolean) rfl (by decide) (Nat.le_of_ble_eq_true rfl) (Nat.le_of_ble_eq_true rfl) dX13_isSpaced_82 ⟨_, rfl, h⟩
  · replace h := h.2 q
    refine g_iconst (np := 10) (v := 0) B.1 dX13_isSpaced_9 (by decide) rfl ?_
    exact g_iret B (ty := .boolean) rfl (by decide) (Nat.le_of_ble_eq_true rfl) (Nat.le_of_ble_eq_true rfl) dX13_isSpaced_10 ⟨_, rfl, h⟩
