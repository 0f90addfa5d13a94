def wX13_meanLength   (s0 : Mem) (Q : UInt64 → Mem → Prop) (E : String → Mem → Prop) : Prop := ((¬ rd s0 10 8 13 = 0 → wX13_isThrown  0 1 s0 (fun (r1 : Int32) (s2 : Mem) => ((r1 = 0 → wX13_onShelf   s2 (fun (r3 : Int32) (s4 : Mem) => vf_n64 (FP.ddiv (FP.i2d r3) (FP.i2d (rd s4 10 8 13))) ∧ Q (FP.ddiv (FP.i2d r3) (FP.i2d (rd s4 10 8 13))) s4) E) ∧ (¬ r1 = 0 → Q FP.dconst0 s2))) E) ∧ (rd s0 10 8 13 = 0 → wX13_isThrown  1 1 s0 (fun (r5 : Int32) (s6 : Mem) => ((r5 = 0 → wX13_onShelf   s6 (fun (r7 : Int32) (s8 : Mem) => vf_n64 (FP.ddiv (FP.i2d r7) (FP.i2d (rd s8 10 8 13))) ∧ Q (FP.ddiv (FP.i2d r7) (FP.i2d (rd s8 10 8 13))) s8) E) ∧ (¬ r5 = 0 → Q FP.dconst0 s6))) E))
set_option maxRecDepth 20000 in
set_option maxHeartbeats 4000000 in
theorem oX13_meanLength {l : Launch} {x : Ctx} (hl : l.stackTraces = false)     (s0 : Mem) (Q : UInt64 → Mem → Prop) (E : String → Mem → Prop) (h : wX13_meanLength   s0 Q E) : MetG l x yX13_meanLength cX13_meanLength 1 (some .double) 1 22 0 0 [.ref (xad x 15 0)] s0 (RD Q) E := by
  refine MetG.of hl (by decide) (Nat.le_of_ble_eq_true rfl) [some (.ref (xad x 15 0))] rfl (fun K B hx _ => ?_)
  subst hx
  unfold wX13_meanLength at h
  refine g_aload_n (np := 1) B.1 dX13_meanLength_0 rfl rfl ?_
  refine g_aload_n (np := 2) B.1 dX13_meanLength_1 rfl rfl ?_
  refine gf_YModel_9_15 (np := 5) B.1 dX13_meanLength_2 rfl ?_
  refine g_bipush (np := 7) (v := 13) B.1 dX13_meanLength_5 (by decide) rfl ?_
  refine g_ialdL (np := 8) B.1 10 8 (by decide) rfl rfl 13 (by decide) (vpl (by decide)) dX13_meanLength_7 rfl ?_
  refine g_if_ne (np := 11) (tgt := 15) B.1 dX13_meanLength_8 (by decide) rfl (fun q => ?_) (fun q => ?_)
  · replace h := h.1 q
    refine g_iconst (np := 16) (v := 0) B.1 dX13_meanLength_15 (by decide) rfl ?_
    refine g_iconst (np := 17) (v := 1) B.1 dX13_meanLength_16 (by decide) rfl ?_
    refine gc_YModel_65 (np := 20) B   (oX13_isThrown B.1.tr   0 1  _ _ _ h) (Nat.le_of_ble_eq_true rfl) (Nat.le_of_ble_eq_true rfl) (Nat.le_of_ble_eq_true rfl) (Nat.le_of_ble_eq_true rfl) (Nat.le_of_ble_eq_true rfl) dX13_meanLength_17 rfl (fun r1 s2 h => ?_)
    refine g_if_eq (np := 23) (tgt := 27) B.1 dX13_meanLength_20 (by decide) rfl (fun q => ?_) (fun q => ?_)
    · replace h := h.1 q
      refine g_aload_n (np := 28) B.1 dX13_meanLength_27 rfl rfl ?_
      refine gc_YModel_173 (np := 31) B   (oX13_onShelf B.1.tr     _ _ _ h) (Nat.le_of_ble_eq_true rfl) (Nat.le_of_ble_eq_true rfl) (Nat.le_of_ble_eq_true rfl) (Nat.le_of_ble_eq_true rfl) (Nat.le_of_ble_eq_true rfl) dX13_meanLength_28 rfl (fun r3 s4 h => ?_)
      refine g_i2d (np := 32) B.1 dX13_meanLength_31 rfl ?_
      refine g_aload_n (np := 33) B.1 dX13_meanLength_32 rfl rfl ?_
      refine gf_YModel_9_15 (np := 36) B.1 dX13_meanLength_33 rfl ?_
      refine g_bipush (np := 38) (v := 13) B.1 dX13_meanLength_36 (by decide) rfl ?_
      refine g_ialdL (np := 39) B.1 10 8 (by decide) rfl rfl 13 (by decide) (vpl (by decide)) dX13_meanLength_38 rfl ?_
      refine g_i2d (np := 40) B.1 dX13_meanLength_39 rfl ?_
      refine g_ddiv (np := 41) B.1 dX13_meanLength_40 h.1 rfl ?_
      replace h := h.2
      exact g_dret B rfl (Nat.le_of_ble_eq_true rfl) (Nat.le_of_ble_eq_true rfl) dX13_meanLength_41 ⟨_, rfl, h⟩
    · replace h := h.2 q
      refine g_dconst_0 (np := 24) B.1 dX13_meanLength_23 rfl ?_
      refine g_goto (tgt := 41) B.1 dX13_meanLength_24 (by decide) ?_
      exact g_dret B rfl (Nat.le_of_ble_eq_true rfl) (Nat.le_of_ble_eq_true rfl) dX13_meanLength_41 ⟨_, rfl, h⟩
  · replace h := h.2 q
    refine g_iconst (np := 12) (v := 1) B.1 dX13_meanLength_11 (by decide) rfl ?_
    refine g_goto (tgt := 16) B.1 dX13_meanLength_12 (by decide) ?_
    refine g_iconst (np := 17) (v := 1) B.1 dX13_meanLength_16 (by decide) rfl ?_
    refine gc_YModel_65 (np := 20) B   (oX13_isThrown B.1.tr   1 1  _ _ _ h) (Nat.le_of_ble_eq_true rfl) (Nat.le_of_ble_eq_true rfl) (Nat.le_of_ble_eq_true rfl) (Nat.le_of_ble_eq_true rfl) (Nat.le_of_ble_eq_true rfl) dX13_meanLength_17 rfl (fun r5 s6 h => ?_)
    refine g_if_eq (np := 23) (tgt := 27) B.1 dX13_meanLength_20 (by decide) rfl (fun q => ?_) (fun q => ?_)
    · replace h := h.1 q
      refine g_aload_n (np := 28) B.1 dX13_meanLength_27 rfl rfl ?_
      refine gc_YModel_173 (np := 31) B   (oX13_onShelf B.1.tr     _ _ _ h) (Nat.le_of_ble_eq_true rfl) (Nat.le_of_ble_eq_true rfl) (Nat.le_of_ble_eq_true rfl) (Nat.le_of_ble_eq_true rfl) (Nat.le_of_ble_eq_true rfl) dX13_meanLength_28 rfl (fun r7 s8 h => ?_)
      refine g_i2d (np := 32) B.1 dX13_meanLength_31 rfl ?_
      refine g_aload_n (np := 33) B.1 dX13_meanLength_32 rfl rfl ?_
      refine gf_YModel_9_15 (np := 36) B.1 dX13_meanLength_33 rfl ?_
      refine g_bipush (np := 38) (v := 13) B.1 dX13_meanLength_36 (by decide) rfl ?_
      refine g_ialdL (np := 39) B.1 10 8 (by decide) rfl rfl 13 (by decide) (vpl (by decide)) dX13_meanLength_38 rfl ?_
      refine g_i2d (np := 40) B.1 dX13_meanLength_39 rfl ?_
      refine g_ddiv (np := 41) B.1 dX13_meanLength_40 h.1 rfl ?_
      replace h := h.2
      exact g_dret B rfl (Nat.le_of_ble_eq_true rfl) (Nat.le_of_ble_eq_true rfl) dX13_meanLength_41 ⟨_, rfl, h⟩
    · replace h := h.2 q
      refine g_dconst_0 (np := 24) B.1 dX13_meanLength_23 rfl ?_
      refine g_goto (tgt := 41) B.1 dX13_meanLength_24 (by decide) ?_
      exact g_dret B rfl (Nat.le_of_ble_eq_true rfl) (Nat.le_of_ble_eq_true rfl) dX13_meanLength_41 ⟨_, rfl, h⟩
def wX13_longShare_4   (Q : UInt32 → Mem → Prop) (E : String → Mem → Prop)  (X43 : Int32 → Mem → Prop) : Nat → Int32 → Int32 → Mem → Prop
  | 0, _, _, _ => False
  | n4 + 1, v1, v2, s0 => ((rd s0 10 8 13 ≤ v2 → X43 v1 s0) ∧ (¬ rd s0 10 8 13 ≤ v2 → vp_in (78 + v2) (iaLen 8) ∧ ((rd s0 10 8 (78 + v2).toNatClampNeg < 10 → ∀ v1_1 : Int32, v1_1 = (v1 + 0) → ∀ v2_2 : Int32, v2_2 = (v2 + 1) → wX13_longShare_4   Q E X43 n4 v1_1 v2_2 s0) ∧ (¬ rd s0 10 8 (78 + v2).toNatClampNeg < 10 → ∀ v1_3 : Int32, v1_3 = (v1 + 1) → ∀ v2_4 : Int32, v2_4 = (v2 + 1) → wX13_longShare_4   Q E X43 n4 v1_3 v2_4 s0))))
def wX13_longShare   (s0 : Mem) (Q : UInt32 → Mem → Prop) (E : String → Mem → Prop) : Prop := ∃ m11 : Nat, wX13_longShare_4   Q E (fun (x1_5 : Int32) (s6 : Mem) => ((¬ rd s6 10 8 13 = 0 → wX13_isThrown  0 1 s6 (fun (r7 : Int32) (s8 : Mem) => ((r7 = 0 → vf_n32 (FP.fdiv (FP.i2f x1_5) (FP.i2f (rd s8 10 8 13))) ∧ Q (FP.fdiv (FP.i2f x1_5) (FP.i2f (rd s8 10 8 13))) s8) ∧ (¬ r7 = 0 → Q FP.fconst0 s8))) E) ∧ (rd s6 10 8 13 = 0 → wX13_isThrown  1 1 s6 (fun (r9 : Int32) (s10 : Mem) => ((r9 = 0 → vf_n32 (FP.fdiv (FP.i2f x1_5) (FP.i2f (rd s10 10 8 13))) ∧ Q (FP.fdiv (FP.i2f x1_5) (FP.i2f (rd s10 10 8 13))) s10) ∧ (¬ r9 = 0 → Q FP.fconst0 s10))) E))) m11 0 0  s0
set_option maxRecDepth 20000 in
set_option maxHeartbeats 4000000 in
theorem oX13_longShare_4 {K : Fr} {Q : UInt32 → Mem → Prop} {E : String → Mem → Prop} (B : Bd K cX13_longShare "YarnMillModel" 3 (some .float) 1 22 0 0 (RF Q) E)    {X43 : Int32 → Mem → Prop} {cells slots : Nat} (hX43 : ∀ (y1 : Int32) (τ : Mem), X43 y1 τ → Go K cells slots τ 43 [some (.ref (xad (fX K) 15 0)), some (.int y1), none] ([])) (hc : cells ≤ 0) (hs : slots ≤ 0) : ∀ (n : Nat) (v1 : Int32) (v2 : Int32) (s0 : Mem), wX13_longShare_4   Q E X43 n v1 v2 s0 → Go K cells slots s0 4 [some (.ref (xad (fX K) 15 0)), some (.int v1), some (.int v2)] ([]) := by
  intro n
  induction n with
  | zero => intro v1 v2 s0 h; exact absurd h (by simp [wX13_longShare_4])
  | succ n ih =>
    intro v1 v2 s0 h
    simp only [wX13_longShare_4] at h
    refine g_iload_n (np := 5) B.1 dX13_longShare_4 rfl rfl ?_
    refine g_aload_n (np := 6) B.1 dX13_longShare_5 rfl rfl ?_
    refine gf_YModel_9_15 (np := 9) B.1 dX13_longShare_6 rfl ?_
    refine g_bipush (np := 11) (v := 13) B.1 dX13_longShare_9 (by decide) rfl ?_
    refine g_ialdL (np := 12) B.1 10 8 (by decide) rfl rfl 13 (by decide) (vpl (by decide)) dX13_longShare_11 rfl ?_
    refine g_icmp_ge (np := 15) (tgt := 43) B.1 dX13_longShare_12 (by decide) rfl (fun q => ?_) (fun q => ?_)
    · replace h := h.1 q
      refine Go.lle [some (.ref (xad (fX K) 15 0)), some (.int v1), none] (by simp [lle]) ?_
      exact hX43 v1 s0 h
    · replace h := h.2 q
      refine g_iload_n (np := 16) B.1 dX13_longShare_15 rfl rfl ?_
      refine g_aload_n (np := 17) B.1 dX13_longShare_16 rfl rfl ?_
      refine gf_YModel_9_15 (np := 20) B.1 dX13_longShare_17 rfl ?_
      refine g_bipush (np := 22) (v := 78) B.1 dX13_longShare_20 (by decide) rfl ?_
      refine g_iload_n (np := 23) B.1 dX13_longShare_22 rfl rfl ?_
      refine g_iadd (np := 24) B.1 dX13_longShare_23 rfl ?_
      refine g_iald (np := 25) B.1 10 8 (by decide) rfl rfl h.1 dX13_longShare_24 rfl ?_
      replace h := h.2
      refine g_bipush (np := 27) (v := 10) B.1 dX13_longShare_25 (by decide) rfl ?_
      refine g_icmp_lt (np := 30) (tgt := 34) B.1 dX13_longShare_27 (by decide) rfl (fun q => ?_) (fun q => ?_)
      · replace h := h.1 q
        refine g_iconst (np := 35) (v := 0) B.1 dX13_longShare_34 (by decide) rfl ?_
        refine g_iadd (np := 36) B.1 dX13_longShare_35 rfl ?_
        refine g_topi (fun v1_1 ev1_1 => ?_)
        replace h := h v1_1 ev1_1
        refine g_istore_n (np := 37) (lv' := [some (.ref (xad (fX K) 15 0)), some (.int v1_1), some (.int v2)]) B.1 dX13_longShare_36 (by decide) rfl rfl rfl ?_
        obtain ⟨v2_2, ev2_2⟩ : ∃ y : Int32, y = v2 + 1 := ⟨_, rfl⟩
        replace h := h v2_2 ev2_2
        refine g_iinc (np := 40) (v := v2_2) (lv' := [some (.ref (xad (fX K) 15 0)), some (.int v1_1), some (.int v2_2)]) B.1 dX13_longShare_37 rfl (by rw [ev2_2]; rfl) (by decide) rfl rfl rfl ?_
        refine g_goto (tgt := 4) B.1 dX13_longShare_40 (by decide) ?_
        refine Go.lle [some (.ref (xad (fX K) 15 0)), some (.int v1_1), some (.int v2_2)] (by simp [lle]) ?_
        exact ih v1_1 v2_2 s0 h
      · replace h := h.2 q
        refine g_iconst (np := 31) (v := 1) B.1 dX13_longShare_30 (by decide) rfl ?_
        refine g_goto (tgt := 35) B.1 dX13_longShare_31 (by decide) ?_
        refine g_iadd (np := 36) B.1 dX13_longShare_35 rfl ?_
        refine g_topi (fun v1_3 ev1_3 => ?_)
        replace h := h v1_3 ev1_3
        refine g_istore_n (np := 37) (lv' := [some (.ref (xad (fX K) 15 0)), some (.int v1_3), some (.int v2)]) B.1 dX13_longShare_36 (by decide) rfl rfl rfl ?_
        obtain ⟨v2_4, ev2_4⟩ : ∃ y : Int32, y = v2 + 1 := ⟨_, rfl⟩
        replace h := h v2_4 ev2_4
        refine g_iinc (np := 40) (v := v2_4) (lv' := [some (.ref (xad (fX K) 15 0)), some (.int v1_3), some (.int v2_4)]) B.1 dX13_longShare_37 rfl (by rw [ev2_4]; rfl) (by decide) rfl rfl rfl ?_
        refine g_goto (tgt := 4) B.1 dX13_longShare_40 (by decide) ?_
        refine Go.lle [some (.ref (xad (fX K) 15 0)), some (.int v1_3), some (.int v2_4)] (by simp [lle]) ?_
        exact ih v1_3 v2_4 s0 h
set_option maxRecDepth 20000 in
set_option maxHeartbeats 4000000 in
theorem oX13_longShare {l : Launch} {x : Ctx} (hl : l.stackTraces = false)     (s0 : Mem) (Q : UInt32 → Mem → Prop) (E : String → Mem → Prop) (h : wX13_longShare   s0 Q E) : MetG l x yX13_longShare cX13_longShare 3 (some .float) 1 22 0 0 [.ref (xad x 15 0)] s0 (RF Q) E := by
  refine MetG.of hl (by decide) (Nat.le_of_ble_eq_true rfl) [some (.ref (xad x 15 0)), none, none] rfl (fun K B hx _ => ?_)
  subst hx
  unfold wX13_longShare at h
  refine g_iconst (np := 1) (v := 0) B.1 dX13_longShare_0 (by decide) rfl ?_
  refine g_istore_n (np := 2) (lv' := [some (.ref (xad (fX K) 15 0)), some (.int 0), none]) B.1 dX13_longShare_1 (by decide) rfl rfl rfl ?_
  refine g_iconst (np := 3) (v := 0) B.1 dX13_longShare_2 (by decide) rfl ?_
  refine g_istore_n (np := 4) (lv' := [some (.ref (xad (fX K) 15 0)), some (.int 0), some (.int 0)]) B.1 dX13_longShare_3 (by decide) rfl rfl rfl ?_
  obtain ⟨m11, h⟩ := h
  refine Go.lle [some (.ref (xad (fX K) 15 0)), some (.int 0), some (.int 0)] (by simp [lle]) ?_
  refine oX13_longShare_4 B    (fun x1_5 s6 h => ?_) (Nat.le_of_ble_eq_true rfl) (Nat.le_of_ble_eq_true rfl) m11 0 0  s0 h
  refine g_aload_n (np := 44) B.1 dX13_longShare_43 rfl rfl ?_
  refine g_aload_n (np := 45) B.1 dX13_longShare_44 rfl rfl ?_
  refine gf_YModel_9_15 (np := 48) B.1 dX13_longShare_45 rfl ?_
  refine g_bipush (np := 50) (v := 13) B.1 dX13_longShare_48 (by decide) rfl ?_
  refine g_ialdL (np := 51) B.1 10 8 (by decide) rfl rfl 13 (by decide) (vpl (by decide)) dX13_longShare_50 rfl ?_
  refine g_if_ne (np := 54) (tgt := 58) B.1 dX13_longShare_51 (by decide) rfl (fun q => ?_) (fun q => ?_)
  · replace h := h.1 q
    refine g_iconst (np := 59) (v := 0) B.1 dX13_longShare_58 (by decide) rfl ?_
    refine g_iconst (np := 60) (v := 1) B.1 dX13_longShare_59 (by decide) rfl ?_
    refine gc_YModel_65 (np := 63) B   (oX13_isThrown B.1.tr   0 1  _ _ _ h) (Nat.le_of_ble_eq_true rfl) (Nat.le_of_ble_eq_true rfl) (Nat.le_of_ble_eq_true rfl) (Nat.le_of_ble_eq_true rfl) (Nat.le_of_ble_eq_true rfl) dX13_longShare_60 rfl (fun r7 s8 h => ?_)
    refine g_if_eq (np := 66) (tgt := 70) B.1 dX13_longShare_63 (by decide) rfl (fun q => ?_) (fun q => ?_)
    · replace h := h.1 q
      refine g_iload_n (np := 71) B.1 dX13_longShare_70 rfl rfl ?_
      refine g_i2f (np := 72) B.1 dX13_longShare_71 rfl ?_
      refine g_aload_n (np := 73) B.1 dX13_longShare_72 rfl rfl ?_
      refine gf_YModel_9_15 (np := 76) B.1 dX13_longShare_73 rfl ?_
      refine g_bipush (np := 78) (v := 13) B.1 dX13_longShare_76 (by decide) rfl ?_
      refine g_ialdL (np := 79) B.1 10 8 (by decide) rfl rfl 13 (by decide) (vpl (by decide)) dX13_longShare_78 rfl ?_
      refine g_i2f (np := 80) B.1 dX13_longShare_79 rfl ?_
      refine g_fdiv (np := 81) B.1 dX13_longShare_80 h.1 rfl ?_
      replace h := h.2
      exact g_fret B rfl (Nat.le_of_ble_eq_true rfl) (Nat.le_of_ble_eq_true rfl) dX13_longShare_81 ⟨_, rfl, h⟩
    · replace h := h.2 q
      refine g_fconst_0 (np := 67) B.1 dX13_longShare_66 rfl ?_
      refine g_goto (tgt := 81) B.1 dX13_longShare_67 (by decide) ?_
      exact g_fret B rfl (Nat.le_of_ble_eq_true rfl) (Nat.le_of_ble_eq_true rfl) dX13_longShare_81 ⟨_, rfl, h⟩
  · replace h := h.2 q
    refine g_iconst (np := 55) (v := 1) B.1 dX13_longShare_54 (by decide) rfl ?_
    refine g_goto (tgt := 59) B.1 dX13_longShare_55 (by decide) ?_
    refine g_iconst (np := 60) (v := 1) B.1 dX13_longShare_59 (by decide) rfl ?_
    refine gc_YModel_65 (np := 63) B   (oX13_isThrown B.1.tr   1 1  _ _ _ h) (Nat.le_of_ble_eq_true rfl) (Nat.le_of_ble_eq_true rfl) (Nat.le_of_ble_eq_true rfl) (Nat.le_of_ble_eq_true rfl) (Nat.le_of_ble_eq_true rfl) dX13_longShare_60 rfl (fun r9 s10 h => ?_)
    refine g_if_eq (np := 66) (tgt := 70) B.1 dX13_longShare_63 (by decide) rfl (fun q => ?_) (fun q => ?_)
    · replace h := h.1 q
      refine g_iload_n (np := 71) B.1 dX13_longShare_70 rfl rfl ?_
      refine g_i2f (np := 72) B.1 dX13_longShare_71 rfl ?_
      refine g_aload_n (np := 73) B.1 dX13_longShare_72 rfl rfl ?_
      refine gf_YModel_9_15 (np := 76) B.1 dX13_longShare_73 rfl ?_
      refine g_bipush (np := 78) (v := 13) B.1 dX13_longShare_76 (by decide) rfl ?_
      refine g_ialdL (np := 79) B.1 10 8 (by decide) rfl rfl 13 (by decide) (vpl (by decide)) dX13_longShare_78 rfl ?_
      refine g_i2f (np := 80) B.1 dX13_longShare_79 rfl ?_
      refine g_fdiv (np := 81) B.1 dX13_longShare_80 h.1 rfl ?_
      replace h := h.2
      exact g_fret B rfl (Nat.le_of_ble_eq_true rfl) (Nat.le_of_ble_eq_true rfl) dX13_longShare_81 ⟨_, rfl, h⟩
    · replace h := h.2 q
      refine g_fconst_0 (np := 67) B.1 dX13_longShare_66 rfl ?_
      refine g_goto (tgt := 81) B.1 dX13_longShare_67 (by decide) ?_
      exact g_fret B rfl (Nat.le_of_ble_eq_true rfl) (Nat.le_of_ble_eq_true rfl) dX13_longShare_81 ⟨_, rfl, h⟩
def wX13_isWord_2  (a1 : Nat) (Q : Int32 → Mem → Prop) (E : String → Mem → Prop)  (X22 : Mem → Prop) (X30 : Mem → Prop) : Nat → Int32 → Mem → Prop
  | 0, _, _ => False
  | n2 + 1, v2, s0 => wJ0_length_8abf5  a1 s0 (fun (r1 : Int32) (s2 : Mem) => s2 = s0 ∧ ((r1 ≤ v2 → X30  s0) ∧ (¬ r1 ≤ v2 → wJ0_charAt_5068e  a1 v2 s0 (fun (r3 : Int32) (s4 : Mem) => s4 = s0 ∧ wX13_isSign  r3 s0 (fun (r5 : Int32) (s6 : Mem) => ((¬ r5 = 0 → ∀ v2_7 : Int32, v2_7 = (v2 + 1) → wX13_isWord_2  a1 Q E X22 X30 n2 v2_7 s6) ∧ (r5 = 0 → X22  s6))) E) E))) E
def wX13_isWord  (a1 : Nat) (s0 : Mem) (Q : Int32 → Mem → Prop) (E : String → Mem → Prop) : Prop := ∃ m10 : Nat, wX13_isWord_2  a1 Q E (fun (s8 : Mem) => Q 0 s8) (fun (s9 : Mem) => Q 1 s9) m10 0  s0
set_option maxRecDepth 20000 in
set_option maxHeartbeats 4000000 in
theorem oX13_isWord_2 {K : Fr} {Q : Int32 → Mem → Prop} {E : String → Mem → Prop} (B : Bd K cX13_isWord "YarnMillModel" 3 (some .boolean) 4 93 0 0 (RI Q) E)  (a1 : Nat)  (ha1 : a1 < 19) {X22 : Mem → Prop} {X30 : Mem → Prop} {cells slots : Nat} (hX22 : ∀ (τ : Mem), X22  τ → Go K cells slots τ 22 [none, none, none] ([])) (hX30 : ∀ (τ : Mem), X30  τ → Go K cells slots τ 30 [none, none, none] ([])) (hc : cells ≤ 0) (hs : slots ≤ 0) : ∀ (n : Nat) (v2 : Int32) (s0 : Mem), wX13_isWord_2  a1 Q E X22 X30 n v2 s0 → Go K cells slots s0 2 [some (.ref (xad (fX K) 15 0)), some (.ref (xen (fX K) 3 a1)), some (.int v2)] ([]) := by
  intro n
  induction n with
  | zero => intro v2 s0 h; exact absurd h (by simp [wX13_isWord_2])
  | succ n ih =>
    intro v2 s0 h
    simp only [wX13_isWord_2] at h
    refine g_iload_n (np := 3) B.1 dX13_isWord_2 rfl rfl ?_
    refine g_aload_n (np := 4) B.1 dX13_isWord_3 rfl rfl ?_
    refine gc_YModel_198 (np := 7) B  ha1 (oJ0_length_8abf5 B.1.tr   a1 ha1 _ _ _ h) (Nat.le_of_ble_eq_true rfl) (Nat.le_of_ble_eq_true rfl) (Nat.le_of_ble_eq_true rfl) hc hs dX13_isWord_4 rfl (fun r1 s2 h => ?_)
    obtain ⟨es2, h⟩ := h
    rw [es2]
    refine g_icmp_ge (np := 10) (tgt := 30) B.1 dX13_isWord_7 (by decide) rfl (fun q => ?_) (fun q => ?_)
    · replace h := h.1 q
      refine Go.lle [none, none, none] (by simp [lle]) ?_
      exact hX30  s0 h
    · replace h := h.2 q
      refine g_aload_n (np := 11) B.1 dX13_isWord_10 rfl rfl ?_
      refine g_aload_n (np := 12) B.1 dX13_isWord_11 rfl rfl ?_
      refine g_iload_n (np := 13) B.1 dX13_isWord_12 rfl rfl ?_
      refine gc_YModel_203 (np := 16) B  ha1 (oJ0_charAt_5068e B.1.tr   a1 v2 ha1 _ _ _ h) (Nat.le_of_ble_eq_true rfl) (Nat.le_of_ble_eq_true rfl) (Nat.le_of_ble_eq_true rfl) hc hs dX13_isWord_13 rfl (fun r3 s4 h => ?_)
      obtain ⟨es4, h⟩ := h
      rw [es4]
      refine gc_YModel_195 (np := 19) B   (oX13_isSign B.1.tr   r3  _ _ _ h) (Nat.le_of_ble_eq_true rfl) (Nat.le_of_ble_eq_true rfl) (Nat.le_of_ble_eq_true rfl) hc hs dX13_isWord_16 rfl (fun r5 s6 h => ?_)
      refine g_if_ne (np := 22) (tgt := 24) B.1 dX13_isWord_19 (by decide) rfl (fun q => ?_) (fun q => ?_)
      · replace h := h.1 q
        obtain ⟨v2_7, ev2_7⟩ : ∃ y : Int32, y = v2 + 1 := ⟨_, rfl⟩
        replace h := h v2_7 ev2_7
        refine g_iinc (np := 27) (v := v2_7) (lv' := [some (.ref (xad (fX K) 15 0)), some (.ref (xen (fX K) 3 a1)), some (.int v2_7)]) B.1 dX13_isWord_24 rfl (by rw [ev2_7]; rfl) (by decide) rfl rfl rfl ?_
        refine g_goto (tgt := 2) B.1 dX13_isWord_27 (by decide) ?_
        refine Go.lle [some (.ref (xad (fX K) 15 0)), some (.ref (xen (fX K) 3 a1)), some (.int v2_7)] (by simp [lle]) ?_
        exact ih v2_7 s6 h
      · replace h := h.2 q
        refine Go.lle [none, none, none] (by simp [lle]) ?_
        exact hX22  s6 h
set_option maxRecDepth 20000 in
set_option maxHeartbeats 4000000 in
theorem oX13_isWord {l : Launch} {x : Ctx} (hl : l.stackTraces = false)   (a1 : Nat) (ha1 : a1 < 19) (s0 : Mem) (Q : Int32 → Mem → Prop) (E : String → Mem → Prop) (h : wX13_isWord  a1 s0 Q E) : MetG l x yX13_isWord cX13_isWord 3 (some .boolean) 4 93 0 0 [.ref (xad x 15 0), .ref (xen x 3 a1)] s0 (RI Q) E := by
  refine MetG.of hl (by decide) (Nat.le_of_ble_eq_true rfl) [some (.ref (xad x 15 0)), some (.ref (xen x 3 a1)), none] rfl (fun K B hx _ => ?_)
  subst hx
  unfold wX13_isWord at h
  refine g_iconst (np := 1) (v := 0) B.1 dX13_isWord_0 (by decide) rfl ?_
  refine g_istore_n (np := 2) (lv' := [some (.ref (xad (fX K) 15 0)), some (.ref (xen (fX K) 3 a1)), some (.int 0)]) B.1 dX13_isWord_1 (by decide) rfl rfl rfl ?_
  obtain ⟨m10, h⟩ := h
  refine Go.lle [some (.ref (xad (fX K) 15 0)), some (.ref (xen (fX K) 3 a1)), some (.int 0)] (by simp [lle]) ?_
  refine oX13_isWord_2 B  a1  ha1 (fun s8 h => ?_) (fun s9 h => ?_) (Nat.le_of_ble_eq_true rfl) (Nat.le_of_ble_eq_true rfl) m10 0  s0 h
  · refine g_iconst (np := 23) (v := 0) B.1 dX13_isWord_22 (by decide) rfl ?_
    exact g_iret B (ty := .boolean) rfl (by decide) (Nat.le_of_ble_eq_true rfl) (Nat.le_of_ble_eq_true rfl) dX13_isWord_23 ⟨_, rfl, h⟩
  · refine g_iconst (np := 31) (v := 1) B.1 dX13_isWord_30 (by decide) rfl ?_
    exact g_iret B (ty := .boolean) rfl (by decide) (Nat.le_of_ble_eq_true rfl) (Nat.le_of_ble_eq_true rfl) dX13_isWord_31 ⟨_, rfl, h⟩
def wX13_readsB  (a1 : Int32) (s0 : Mem) (Q : Int32 → Mem → Prop) (E : String → Mem → Prop) : Prop := wX13_isSign  97 s0 (fun (r1 : Int32) (s2 : Mem) => ((r1 = 0 → vp_in a1 (iaLen 16) ∧ ∀ s3 : Mem, s3 = wr s2 10 16 a1.toNatClampNeg 108 → wX13_isWord  11 s3 (fun (r4 : Int32) (s5 : Mem) => ((r4 = 0 → Q 0 s5) ∧ (¬ r4 = 0 → wX13_isSpaced  3 (a1 + 1) s5 (fun (r6 : Int32) (s7 : Mem) => ((r6 = 0 → Q 0 s7) ∧ (¬ r6 = 0 → wX13_isSpaced  3 (a1 + 2) s7 (fun (r8 : Int32) (s9 : Mem) => ((r8 = 0 → Q 0 s9) ∧ (¬ r8 = 0 → Q 1 s9))) E))) E))) E) ∧ (¬ r1 = 0 → wX13_isWord  10 s2 (fun (r10 : Int32) (s11 : Mem) => ((r10 = 0 → Q 0 s11) ∧ (¬ r10 = 0 → wX13_isSpaced  3 (a1 + 1) s11 (fun (r12 : Int32) (s13 : Mem) => ((r12 = 0 → Q 0 s13) ∧ (¬ r12 = 0 → wX13_isSpaced  3 (a1 + 2) s13 (fun (r14 : Int32) (s15 : Mem) => ((r14 = 0 → Q 0 s15) ∧ (¬ r14 = 0 → wX13_isSpaced  3 (a1 + 3) s15 (fun (r16 : Int32) (s17 : Mem) => ((r16 = 0 → Q 0 s17) ∧ (¬ r16 = 0 → Q 1 s17))) E))) E))) E))) E))) E
set_option maxRecDepth 20000 in
set_option maxHeartbeats 4000000 in
theorem oX13_readsB {l : Launch} {x : Ctx} (hl : l.stackTraces = false)   (a1 : Int32)  (s0 : Mem) (Q : Int32 → Mem → Prop) (E : String → Mem → Prop) (h : wX13_readsB  a1 s0 Q E) : MetG l x yX13_readsB cX13_readsB 2 (some .boolean) 5 115 0 0 [.ref (xad x 15 0), .int a1] s0 (RI Q) E := by
  refine MetG.of hl (by decide) (Nat.le_of_ble_eq_true rfl) [some (.ref (xad x 15 0)), some (.int a1)] rfl (fun K B hx _ => ?_)
  subst hx
  unfold wX13_readsB at h
  refine g_aload_n (np := 1) B.1 dX13_readsB_0 rfl rfl ?_
  refine g_bipush (np := 3) (v := 97) B.1 dX13_readsB_1 (by decide) rfl ?_
  refine gc_YModel_195 (np := 6) B   (oX13_isSign B.1.tr   97  _ _ _ h) (Nat.le_of_ble_eq_true rfl) (Nat.le_of_ble_eq_true rfl) (Nat.le_of_ble_eq_true rfl) (Nat.le_of_ble_eq_true rfl) (Nat.le_of_ble_eq_true rfl) dX13_readsB_3 rfl (fun r1 s2 h => ?_)
  refine g_if_eq (np := 9) (tgt := 57) B.1 dX13_readsB_6 (by decide) rfl (fun q => ?_) (fun q => ?_)
  · replace h := h.1 q
    refine g_aload_n (np := 58) B.1 dX13_readsB_57 rfl rfl ?_
    refine gf_YModel_41_15 (np := 61) B.1 dX13_readsB_58 rfl ?_
    refine g_iload_n (np := 62) B.1 dX13_readsB_61 rfl rfl ?_
    refine g_bipush (np := 64) (v := 108) B.1 dX13_readsB_62 (by decide) rfl ?_
    refine g_iast (np := 65) B.1 10 16 (by decide) rfl (fun _ _ => rfl) h.1 dX13_readsB_64 rfl ?_
    replace h := h.2
    refine g_mem (fun s3 es3 => ?_)
    replace h := h s3 es3
    refine g_aload_n (np := 66) B.1 dX13_readsB_65 rfl rfl ?_
    refine g_ldcS (np := 68) B.1 (j := 11) (by decide) rfl rfl dX13_readsB_66 rfl ?_
    refine gc_YModel_209 (np := 71) B   (oX13_isWord B.1.tr   11 (by decide) _ _ _ h) (Nat.le_of_ble_eq_true rfl) (Nat.le_of_ble_eq_true rfl) (Nat.le_of_ble_eq_true rfl) (Nat.le_of_ble_eq_true rfl) (Nat.le_of_ble_eq_true rfl) dX13_readsB_68 rfl (fun r4 s5 h => ?_)
    refine g_if_eq (np := 74) (tgt := 100) B.1 dX13_readsB_71 (by decide) rfl (fun q => ?_) (fun q => ?_)
    · replace h := h.1 q
      refine g_iconst (np := 101) (v := 0) B.1 dX13_readsB_100 (by decide) rfl ?_
      exact g_iret B (ty := .boolean) rfl (by decide) (Nat.le_of_ble_eq_true rfl) (Nat.le_of_ble_eq_true rfl) dX13_readsB_101 ⟨_, rfl, h⟩
    · replace h := h.2 q
      refine g_aload_n (np := 75) B.1 dX13_readsB_74 rfl rfl ?_
      refine g_iconst (np := 76) (v := 3) B.1 dX13_readsB_75 (by decide) rfl ?_
      refine g_iload_n (np := 77) B.1 dX13_readsB_76 rfl rfl ?_
      refine g_iconst (np := 78) (v := 1) B.1 dX13_readsB_77 (by decide) rfl ?_
      refine g_iadd (np := 79) B.1 dX13_readsB_78 rfl ?_
      refine gc_YModel_213 (np := 82) B   (oX13_isSpaced B.1.tr   3 (a1 + 1)  _ _ _ h) (Nat.le_of_ble_eq_true rfl) (Nat.le_of_ble_eq_true rfl) (Nat.le_of_ble_eq_true rfl) (Nat.le_of_ble_eq_true rfl) (Nat.le_of_ble_eq_true rfl) dX13_readsB_79 rfl (fun r6 s7 h => ?_)
      refine g_if_eq (np := 85) (tgt := 100) B.1 dX13_readsB_82 (by decide) rfl (fun q => ?_) (fun q => ?_)
      · replace h := h.1 q
        refine g_iconst (np := 101) (v := 0) B.1 dX13_readsB_100 (by decide) rfl ?_
        exact g_iret B (ty := .boolean) rfl (by decide) (Nat.le_of_ble_eq_true rfl) (Nat.le_of_ble_eq_true rfl) dX13_readsB_101 ⟨_, rfl, h⟩
      · replace h := h.2 q
        refine g_aload_n (np := 86) B.1 dX13_readsB_85 rfl rfl ?_
        refine g_iconst (np := 87) (v := 3) B.1 dX13_readsB_86 (by decide) rfl ?_
        refine g_iload_n (np := 88) B.1 dX13_readsB_87 rfl rfl ?_
        refine g_iconst (np := 89) (v := 2) B.1 dX13_readsB_88 (by decide) rfl ?_
        refine g_iadd (np := 90) B.1 dX13_readsB_89 rfl ?_
        refine gc_YModel_213 (np := 93) B   (oX13_isSpaced B.1.tr   3 (a1 + 2)  _ _ _ h) (Nat.le_of_ble_eq_true rfl) (Nat.le_of_ble_eq_true rfl) (Nat.le_of_ble_eq_true rfl) (Nat.le_of_ble_eq_true rfl) (Nat.le_of_ble_eq_true rfl) dX13_readsB_90 rfl (fun r8 s9 h => ?_)
        refine g_if_eq (np := 96) (tgt := 100) B.1 dX13_readsB_93 (by decide) rfl (fun q => ?_) (fun q => ?_)
        · replace h := h.1 q
          refine g_iconst (np := 101) (v := 0) B.1 dX13_readsB_100 (by decide) rfl ?_
          exact g_iret B (ty := .boolean) rfl (by decide) (Nat.le_of_ble_eq_true rfl) (Nat.le_of_ble_eq_true rfl) dX13_readsB_101 ⟨_, rfl, h⟩
        · replace h := h.2 q
          refine g_iconst (np := 97) (v := 1) B.1 dX13_readsB_96 (by decide) rfl ?_
          refine g_goto (tgt := 101) B.1 dX13_readsB_97 (by decide) ?_
          exact g_iret B (ty := .boolean) rfl (by decide) (Nat.le_of_ble_eq_true rfl) (Nat.le_of_ble_eq_true rfl) dX13_readsB_101 ⟨_, rfl, h⟩
  · replace h := h.2 q
    refine g_aload_n (np := 10) B.1 dX13_readsB_9 rfl rfl ?_
    refine g_ldcS (np := 12) B.1 (j := 10) (by decide) rfl rfl dX13_readsB_10 rfl ?_
    refine gc_YModel_209 (np := 15) B   (oX13_isWord B.1.tr   10 (by decide) _ _ _ h) (Nat.le_of_ble_eq_true rfl) (Nat.le_of_ble_eq_true rfl) (Nat.le_of_ble_eq_true rfl) (Nat.le_of_ble_eq_true rfl) (Nat.le_of_ble_eq_true rfl) dX13_readsB_12 rfl (fun r10 s11 h => ?_)
    refine g_if_eq (np := 18) (tgt := 55) B.1 dX13_readsB_15 (by decide) rfl (fun q => ?_) (fun q => ?_)
    · replace h := h.1 q
      refine g_iconst (np := 56) (v := 0) B.1 dX13_readsB_55 (by decide) rfl ?_
      exact g_iret B (ty := .boolean) rfl (by decide) (Nat.le_of_ble_eq_true rfl) (Nat.le_of_ble_eq_true rfl) dX13_readsB_56 ⟨_, rfl, h⟩
    · replace h := h.2 q
      refine g_aload_n (np := 19) B.1 dX13_readsB_18 rfl rfl ?_
      refine g_iconst (np := 20) (v := 3) B.1 dX13_readsB_19 (by decide) rfl ?_
      refine g_iload_n (np := 21) B.1 dX13_readsB_20 rfl rfl ?_
      refine g_iconst (np := 22) (v := 1) B.1 dX13_readsB_21 (by decide) rfl ?_
      refine g_iadd (np := 23) B.1 dX13_readsB_22 rfl ?_
      refine gc_YModel_213 (np := 26) B   (oX13_isSpaced B.1.tr   3 (a1 + 1)  _ _ _ h) (Nat.le_of_ble_eq_true rfl) (Nat.le_of_ble_eq_true rfl) (Nat.le_of_ble_eq_true rfl) (Nat.le_of_ble_eq_true rfl) (Nat.le_of_ble_eq_true rfl) dX13_readsB_23 rfl (fun r12 s13 h => ?_)
      refine g_if_eq (np := 29) (tgt := 55) B.1 dX13_readsB_26 (by decide) rfl (fun q => ?_) (fun q => ?_)
      · replace h := h.1 q
        refine g_iconst (np := 56) (v := 0) B.1 dX13_readsB_55 (by decide) rfl ?_
        exact g_iret B (ty := .boolean) rfl (by decide) (Nat.le_of_ble_eq_true rfl) (Nat.le_of_ble_eq_true rfl) dX13_readsB_56 ⟨_, rfl, h⟩
      · replace h := h.2 q
        refine g_aload_n (np := 30) B.1 dX13_readsB_29 rfl rfl ?_
        refine g_iconst (np := 31) (v := 3) B.1 dX13_readsB_30 (by decide) rfl ?_
        refine g_iload_n (np := 32) B.1 dX13_readsB_31 rfl rfl ?_
        refine g_iconst (np := 33) (v := 2) B.1 dX13_readsB_32 (by decide) rfl ?_
        refine g_iadd (np := 34) B.1 dX13_readsB_33 rfl ?_
        refine gc_YModel_213 (np := 37) B   (oX13_isSpaced B.1.tr   3 (a1 + 2)  _ _ _ h) (Nat.le_of_ble_eq_true rfl) (Nat.le_of_ble_eq_true rfl) (Nat.le_of_ble_eq_true rfl) (Nat.le_of_ble_eq_true rfl) (Nat.le_of_ble_eq_true rfl) dX13_readsB_34 rfl (fun r14 s15 h => ?_)
        refine g_if_eq (np := 40) (tgt := 55) B.1 dX13_readsB_37 (by decide) rfl (fun q => ?_) (fun q => ?_)
        · replace h := h.1 q
          refine g_iconst (np := 56) (v := 0) B.1 dX13_readsB_55 (by decide) rfl ?_
          exact g_iret B (ty := .boolean) rfl (by decide) (Nat.le_of_ble_eq_true rfl) (Nat.le_of_ble_eq_true rfl) dX13_readsB_56 ⟨_, rfl, h⟩
        · replace h := h.2 q
          refine g_aload_n (np := 41) B.1 dX13_readsB_40 rfl rfl ?_
          refine g_iconst (np := 42) (v := 3) B.1 dX13_readsB_41 (by decide) rfl ?_
          refine g_iload_n (np := 43) B.1 dX13_readsB_42 rfl rfl ?_
          refine g_iconst (np := 44) (v := 3) B.1 dX13_readsB_43 (by decide) rfl ?_
          refine g_iadd (np := 45) B.1 dX13_readsB_44 rfl ?_
          refine gc_YModel_213 (np := 48) B   (oX13_isSpaced B.1.tr   3 (a1 + 3)  _ _ _ h) (Nat.le_of_ble_eq_true rfl) (Nat.le_of_ble_eq_true rfl) (Nat.le_of_ble_eq_true rfl) (Nat.le_of_ble_eq_true rfl) (Nat.le_of_ble_eq_true rfl) dX13_readsB_45 rfl (fun r16 s17 h => ?_)
          refine g_if_eq (np := 51) (tgt := 55) B.1 dX13_readsB_48 (by decide) rfl (fun q => ?_) (fun q => ?_)
          · replace h := h.1 q
            refine g_iconst (np := 56) (v := 0) B.1 dX13_readsB_55 (by decide) rfl ?_
            exact g_iret B (ty := .boolean) rfl (by decide) (Nat.le_of_ble_eq_true rfl) (Nat.le_of_ble_eq_true rfl) dX13_readsB_56 ⟨_, rfl, h⟩
          · replace h := h.2 q
            refine g_iconst (np := 52) (v := 1) B.1 dX13_readsB_51 (by decide) rfl ?_
            refine g_goto (tgt := 56) B.1 dX13_readsB_52 (by decide) ?_
            exact g_iret B (ty := .boolean) rfl (by decide) (Nat.le_of_ble_eq_true rfl) (Nat.le_of_ble_eq_true rfl) dX13_readsB_56 ⟨_, rfl, h⟩
def wX13_readsS  (a1 : Int32) (s0 : Mem) (Q : Int32 → Mem → Prop) (E : String → Mem → Prop) : Prop := wX13_isSign  101 s0 (fun (r1 : Int32) (s2 : Mem) => ((r1 = 0 → wX13_isSign  112 s2 (fun (r3 : Int32) (s4 : Mem) => ((¬ r3 = 0 → wX13_isSign  105 s4 (fun (r5 : Int32) (s6 : Mem) => ((r5 = 0 → vp_in a1 (iaLen 16) ∧ ∀ s7 : Mem, s7 = wr s6 10 16 a1.toNatClampNeg 112 → wX13_isWord  14 s7 (fun (r8 : Int32) (s9 : Mem) => ((r8 = 0 → Q 0 s9) ∧ (¬ r8 = 0 → wX13_isSpaced  3 (a1 + 1) s9 (fun (r10 : Int32) (s11 : Mem) => ((r10 = 0 → Q 0 s11) ∧ (¬ r10 = 0 → Q 1 s11))) E))) E) ∧ (¬ r5 = 0 → vp_in a1 (iaLen 16) ∧ ∀ s12 : Mem, s12 = wr s6 10 16 a1.toNatClampNeg 105 → wX13_isWord  13 s12 (fun (r13 : Int32) (s14 : Mem) => ((r13 = 0 → Q 0 s14) ∧ (¬ r13 = 0 → wX13_isSpaced  3 (a1 + 1) s14 (fun (r15 : Int32) (s16 : Mem) => ((r15 = 0 → Q 0 s16) ∧ (¬ r15 = 0 → Q 1 s16))) E))) E))) E) ∧ (r3 = 0 → Q 0 s4))) E) ∧ (¬ r1 = 0 → wX13_isWord  12 s2 (fun (r17 : Int32) (s18 : Mem) => ((r17 = 0 → Q 0 s18) ∧ (¬ r17 = 0 → wX13_isSpaced  3 (a1 + 1) s18 (fun (r19 : Int32) (s20 : Mem) => ((r19 = 0 → Q 0 s20) ∧ (¬ r19 = 0 → Q 1 s20))) E))) E))) E
set_option maxRecDepth 20000 in
set_option maxHeartbeats 4000000 in
theorem oX13_readsS {l : Launch} {x : Ctx} (hl : l.stackTraces = false)   (a1 : Int32)  (s0 : Mem) (Q : Int32 → Mem → Prop) (E : String → Mem → Prop) (h : wX13_readsS  a1 s0 Q E) : MetG l x yX13_readsS cX13_readsS 2 (some .boolean) 5 115 0 0 [.ref (xad x 15 0), .int a1] s0 (RI Q) E := by
  refine MetG.of hl (by decide) (Nat.le_of_ble_eq_true rfl) [some (.ref (xad x 15 0)), some (.int a1)] rfl (fun K B hx _ => ?_)
  subst hx
  unfold wX13_readsS at h
  refine g_aload_n (np := 1) B.1 dX13_readsS_0 rfl rfl ?_
  refine g_bipush (np := 3) (v := 101) B.1 dX13_readsS_1 (by decide) rfl ?_
  refine gc_YModel_195 (np := 6) B   (oX13_isSign B.1.tr   101  _ _ _ h) (Nat.le_of_ble_eq_true rfl) (Nat.le_of_ble_eq_true rfl) (Nat.le_of_ble_eq_true rfl) (Nat.le_of_ble_eq_true rfl) (Nat.le_of_ble_eq_true rfl) dX13_readsS_3 rfl (fun r1 s2 h => ?_)
  refine g_if_eq (np := 9) (tgt := 35) B.1 dX13_readsS_6 (by decide) rfl (fun q => ?_) (fun q => ?_)
  · replace h := h.1 q
    refine g_aload_n (np := 36) B.1 dX13_readsS_35 rfl rfl ?_
    refine g_bipush (np := 38) (v := 112) B.1 dX13_readsS_36 (by decide) rfl ?_
    refine gc_YModel_195 (np := 41) B   (oX13_isSign B.1.tr   112  _ _ _ h) (Nat.le_of_ble_eq_true rfl) (Nat.le_of_ble_eq_true rfl) (Nat.le_of_ble_eq_true rfl) (Nat.le_of_ble_eq_true rfl) (Nat.le_of_ble_eq_true rfl) dX13_readsS_38 rfl (fun r3 s4 h => ?_)
    refine g_if_ne (np := 44) (tgt := 46) B.1 dX13_readsS_41 (by decide) rfl (fun q => ?_) (fun q => ?_)
    · replace h := h.1 q
      refine g_aload_n (np := 47) B.1 dX13_readsS_46 rfl rfl ?_
      refine g_bipush (np := 49) (v := 105) B.1 dX13_readsS_47 (by decide) rfl ?_
      refine gc_YModel_195 (np := 52) B   (oX13_isSign B.1.tr   105  _ _ _ h) (Nat.le_of_ble_eq_true rfl) (Nat.le_of_ble_eq_true rfl) (Nat.le_of_ble_eq_true rfl) (Nat.le_of_ble_eq_true rfl) (Nat.le_of_ble_eq_true rfl) dX13_readsS_49 rfl (fun r5 s6 h => ?_)
      refine g_if_eq (np := 55) (tgt := 89) B.1 dX13_readsS_52 (by decide) rfl (fun q => ?_) (fun q => ?_)
      · replace h := h.1 q
        refine g_aload_n (np := 90) B.1 dX13_readsS_89 rfl rfl ?_
        refine gf_YModel_41_15 (np := 93) B.1 dX13_readsS_90 rfl ?_
        refine g_iload_n (np := 94) B.1 dX13_readsS_93 rfl rfl ?_
        refine g_bipush (np := 96) (v := 112) B.1 dX13_readsS_94 (by decide) rfl ?_
        refine g_iast (np := 97) B.1 10 16 (by decide) rfl (fun _ _ => rfl) h.1 dX13_readsS_96 rfl ?_
        replace h := h.2
        refine g_mem (fun s7 es7 => ?_)
        replace h := h s7 es7
        refine g_aload_n (np := 98) B.1 dX13_readsS_97 rfl rfl ?_
        refine g_ldcS (np := 100) B.1 (j := 14) (by decide) rfl rfl dX13_readsS_98 rfl ?_
        refine gc_YModel_209 (np := 103) B   (oX13_isWord B.1.tr   14 (by decide) _ _ _ h) (Nat.le_of_ble_eq_true rfl) (Nat.le_of_ble_eq_true rfl) (Nat.le_of_ble_eq_true rfl) (Nat.le_of_ble_eq_true rfl) (Nat.le_of_ble_eq_true rfl) dX13_readsS_100 rfl (fun r8 s9 h => ?_)
        refine g_if_eq (np := 106) (tgt := 121) B.1 dX13_readsS_103 (by decide) rfl (fun q => ?_) (fun q => ?_)
        · replace h := h.1 q
          refine g_iconst (np := 122) (v := 0) B.1 dX13_readsS_121 (by decide) rfl ?_
          exact g_iret B (ty := .boolean) rfl (by decide) (Nat.le_of_ble_eq_true rfl) (Nat.le_of_ble_eq_true rfl) dX13_readsS_122 ⟨_, rfl, h⟩
        · replace h := h.2 q
          refine g_aload_n (np := 107) B.1 dX13_readsS_106 rfl rfl ?_
          refine g_iconst (np := 108) (v := 3) B.1 dX13_readsS_107 (by decide) rfl ?_
          refine g_iload_n (np := 109) B.1 dX13_readsS_108 rfl rfl ?_
          refine g_iconst (np := 110) (v := 1) B.1 dX13_readsS_109 (by decide) rfl ?_
          refine g_iadd (np := 111) B.1 dX13_readsS_110 rfl ?_
          refine gc_YModel_213 (np := 114) B   (oX13_isSpaced B.1.tr   3 (a1 + 1)  _ _ _ h) (Nat.le_of_ble_eq_true rfl) (Nat.le_of_ble_eq_true rfl) (Nat.le_of_ble_eq_true rfl) (Nat.le_of_ble_eq_true rfl) (Nat.le_of_ble_eq_true rfl) dX13_readsS_111 rfl (fun r10 s11 h => ?_)
          refine g_if_eq (np := 117) (tgt := 121) B.1 dX13_readsS_114 (by decide) rfl (fun q => ?_) (fun q => ?_)
          · replace h := h.1 q
            refine g_iconst (np := 122) (v := 0) B.1 dX13_readsS_121 (by decide) rfl ?_
            exact g_iret B (ty := .boolean) rfl (by decide) (Nat.le_of_ble_eq_true rfl) (Nat.le_of_ble_eq_true rfl) dX13_readsS_122 ⟨_, rfl, h⟩
          · replace h := h.2 q
            refine g_iconst (np := 118) (v := 1) B.1 dX13_readsS_117 (by decide) rfl ?_
            refine g_goto (tgt := 122) B.1 dX13_readsS_118 (by decide) ?_
            exact g_iret B (ty := .boolean) rfl (by decide) (Nat.le_of_ble_eq_true rfl) (Nat.le_of_ble_eq_true rfl) dX13_readsS_122 ⟨_, rfl, h⟩
      · replace h := h.2 q
        refine g_aload_n (np := 56) B.1 dX13_readsS_55 rfl rfl ?_
        refine gf_YModel_41_15 (np := 59) B.1 dX13_readsS_56 rfl ?_
        refine g_iload_n (np := 60) B.1 dX13_readsS_59 rfl rfl ?_
        refine g_bipush (np := 62) (v := 105) B.1 dX13_readsS_60 (by decide) rfl ?_
        refine g_iast (np := 63) B.1 10 16 (by decide) rfl (fun _ _ => rfl) h.1 dX13_readsS_62 rfl ?_
        replace h := h.2
        refine g_mem (fun s12 es12 => ?_)
        replace h := h s12 es12
        refine g_aload_n (np := 64) B.1 dX13_readsS_63 rfl rfl ?_
        refine g_ldcS (np := 66) B.1 (j := 13) (by decide) rfl rfl dX13_readsS_64 rfl ?_
        refine gc_YModel_209 (np := 69) B   (oX13_isWord B.1.tr   13 (by decide) _ _ _ h) (Nat.le_of_ble_eq_true rfl) (Nat.le_of_ble_eq_true rfl) (Nat.le_of_ble_eq_true rfl) (Nat.le_of_ble_eq_true rfl) (Nat.le_of_ble_eq_true rfl) dX13_readsS_66 rfl (fun r13 s14 h => ?_)
        refine g_if_eq (np := 72) (tgt := 87) B.1 dX13_readsS_69 (by decide) rfl (fun q => ?_) (fun q => ?_)
        · replace h := h.1 q
          refine g_iconst (np := 88) (v := 0) B.1 dX13_readsS_87 (by decide) rfl ?_
          exact g_iret B (ty := .boolean) rfl (by decide) (Nat.le_of_ble_eq_true rfl) (Nat.le_of_ble_eq_true rfl) dX13_readsS_88 ⟨_, rfl, h⟩
        · replace h := h.2 q
          refine g_aload_n (np := 73) B.1 dX13_readsS_72 rfl rfl ?_
          refine g_iconst (np := 74) (v := 3) B.1 dX13_readsS_73 (by decide) rfl ?_
          refine g_iload_n (np := 75) B.1 dX13_readsS_74 rfl rfl ?_
          refine g_iconst (np := 76) (v := 1) B.1 dX13_readsS_75 (by decide) rfl ?_
          refine g_iadd (np := 77) B.1 dX13_readsS_76 rfl ?_
          refine gc_YModel_213 (np := 80) B   (oX13_isSpaced B.1.tr   3 (a1 + 1)  _ _ _ h) (Nat.le_of_ble_eq_true rfl) (Nat.le_of_ble_eq_true rfl) (Nat.le_of_ble_eq_true rfl) (Nat.le_of_ble_eq_true rfl) (Nat.le_of_ble_eq_true rfl) dX13_readsS_77 rfl (fun r15 s16 h => ?_)
          refine g_if_eq (np := 83) (tgt := 87) B.1 dX13_readsS_80 (by decide) rfl (fun q => ?_) (fun q => ?_)
          · replace h := h.1 q
            refine g_iconst (np := 88) (v := 0) B.1 dX13_readsS_87 (by decide) rfl ?_
            exact g_iret B (ty := .boolean) rfl (by decide) (Nat.le_of_ble_eq_true rfl) (Nat.le_of_ble_eq_true rfl) dX13_readsS_88 ⟨_, rfl, h⟩
          · replace h := h.2 q
            refine g_iconst (np := 84) (v := 1) B.1 dX13_readsS_83 (by decide) rfl ?_
            refine g_goto (tgt := 88) B.1 dX13_readsS_84 (by decide) ?_
            exact g_iret B (ty := .boolean) rfl (by decide) (Nat.le_of_ble_eq_true rfl) (Nat.le_of_ble_eq_true rfl) dX13_readsS_88 ⟨_, rfl, h⟩
    · replace h := h.2 q
      refine g_iconst (np := 45) (v := 0) B.1 dX13_readsS_44 (by decide) rfl ?_
      exact g_iret B (ty := .boolean) rfl (by decide) (Nat.le_of_ble_eq_true rfl) (Nat.le_of_ble_eq_true rfl) dX13_readsS_45 ⟨_, rfl, h⟩
  · replace h := h.2 q
    refine g_aload_n (np := 10) B.1 dX13_readsS_9 rfl rfl ?_
    refine g_ldcS (np := 12) B.1 (j := 12) (by decide) rfl rfl dX13_readsS_10 rfl ?_
    refine gc_YModel_209 (np := 15) B   (oX13_isWord B.1.tr   12 (by decide) _ _ _ h) (Nat.le_of_ble_eq_true rfl) (Nat.le_of_ble_eq_true rfl) (Nat.le_of_ble_eq_true rfl) (Nat.le_of_ble_eq_true rfl) (Nat.le_of_ble_eq_true rfl) dX13_readsS_12 rfl (fun r17 s18 h => ?_)
    refine g_if_eq (np := 18) (tgt := 33) B.1 dX13_readsS_15 (by decide) rfl (fun q => ?_) (fun q => ?_)
    · replace h := h.1 q
      refine g_iconst (np := 34) (v := 0) B.1 dX13_readsS_33 (by decide) rfl ?_
      exact g_iret B (ty := .boolean) rfl (by decide) (Nat.le_of_ble_eq_true rfl) (Nat.le_of_ble_eq_true rfl) dX13_readsS_34 ⟨_, rfl, h⟩
    · replace h := h.2 q
      refine g_aload_n (np := 19) B.1 dX13_readsS_18 rfl rfl ?_
      refine g_iconst (np := 20) (v := 3) B.1 dX13_readsS_19 (by decide) rfl ?_
      refine g_iload_n (np := 21) B.1 dX13_readsS_20 rfl rfl ?_
      refine g_iconst (np := 22) (v := 1) B.1 dX13_readsS_21 (by decide) rfl ?_
      refine g_iadd (np := 23) B.1 dX13_readsS_22 rfl ?_
      refine gc_YModel_213 (np := 26) B   (oX13_isSpaced B.1.tr   3 (a1 + 1)  _ _ _ h) (Nat.le_of_ble_eq_true rfl) (Nat.le_of_ble_eq_true rfl) (Nat.le_of_ble_eq_true rfl) (Nat.le_of_ble_eq_true rfl) (Nat.le_of_ble_eq_true rfl) dX13_readsS_23 rfl (fun r19 s20 h => ?_)
      refine g_if_eq (np := 29) (tgt := 33) B.1 dX13_readsS_26 (by decide) rfl (fun q => ?_) (fun q => ?_)
      · replace h := h.1 q
        refine g_iconst (np := 34) (v := 0) B.1 dX13_readsS_33 (by decide) rfl ?_
        exact g_iret B (ty := .boolean) rfl (by decide) (Nat.le_of_ble_eq_true rfl) (Nat.le_of_ble_eq_true rfl) dX13_readsS_34 ⟨_, rfl, h⟩
      · replace h := h.2 q
        refine g_iconst (np := 30) (v := 1) B.1 dX13_readsS_29 (by decide) rfl ?_
        refine g_goto (tgt := 34) B.1 dX13_readsS_30 (by decide) ?_
        exact g_iret B (ty := .boolean) rfl (by decide) (Nat.le_of_ble_eq_true rfl) (Nat.le_of_ble_eq_true rfl) dX13_readsS_34 ⟨_, rfl, h⟩
def wX13_readsRest  (a1 : Int32) (a2 : Int32) (s0 : Mem) (Q : Int32 → Mem → Prop) (E : String → Mem → Prop) : Prop := ((a1 = 98 → wX13_readsB  a2 s0 (fun (r1 : Int32) (s2 : Mem) => (r1 = 0 ∨ r1 = 1) ∧ Q r1 s2) E) ∧ (a1 = 99 → wX13_isWord  16 s0 (fun (r3 : Int32) (s4 : Mem) => ((r3 = 0 → Q 0 s4) ∧ (¬ r3 = 0 → wX13_isSpaced  3 (a2 + 1) s4 (fun (r5 : Int32) (s6 : Mem) => ((r5 = 0 → Q 0 s6) ∧ (¬ r5 = 0 → Q 1 s6))) E))) E) ∧ (a1 = 109 → wX13_isWord  17 s0 (fun (r7 : Int32) (s8 : Mem) => ((r7 = 0 → Q 0 s8) ∧ (¬ r7 = 0 → wX13_isSpaced  1 (a2 + 1) s8 (fun (r9 : Int32) (s10 : Mem) => ((r9 = 0 → Q 0 s10) ∧ (¬ r9 = 0 → Q 1 s10))) E))) E) ∧ (a1 = 111 → wX13_isWord  15 s0 (fun (r11 : Int32) (s12 : Mem) => ((r11 = 0 → Q 0 s12) ∧ (¬ r11 = 0 → wX13_isSpaced  3 (a2 + 1) s12 (fun (r13 : Int32) (s14 : Mem) => ((r13 = 0 → Q 0 s14) ∧ (¬ r13 = 0 → wX13_isSpaced  3 (a2 + 2) s14 (fun (r15 : Int32) (s16 : Mem) => ((r15 = 0 → Q 0 s16) ∧ (¬ r15 = 0 → Q 1 s16))) E))) E))) E) ∧ (a1 = 115 → wX13_readsS  a2 s0 (fun (r17 : Int32) (s18 : Mem) => (r17 = 0 ∨ r17 = 1) ∧ Q r17 s18) E) ∧ (¬ a1 = 98 ∧ ¬ a1 = 99 ∧ ¬ a1 = 109 ∧ ¬ a1 = 111 ∧ ¬ a1 = 115 → wX13_isWord  18 s0 (fun (r19 : Int32) (s20 : Mem) => (r19 = 0 ∨ r19 = 1) ∧ Q r19 s20) E))
set_option maxRecDepth 20000 in
set_option maxHeartbeats 4000000 in
theorem oX13_readsRest {l : Launch} {x : Ctx} (hl : l.stackTraces = false)   (a1 : Int32) (a2 : Int32)  (s0 : Mem) (Q : Int32 → Mem → Prop) (E : String → Mem → Prop) (h : wX13_readsRest  a1 a2 s0 Q E) : MetG l x yX13_readsRest cX13_readsRest 3 (some .boolean) 6 136 0 0 [.ref (xad x 15 0), .int a1, .int a2] s0 (RI Q) E := by
  refine MetG.of hl (by decide) (Nat.le_of_ble_eq_true rfl) [some (.ref (xad x 15 0)), some (.int a1), some (.int a2)] rfl (fun K B hx _ => ?_)
  subst hx
  unfold wX13_readsRest at h
  refine g_iload_n (np := 1) B.1 dX13_readsRest_0 rfl rfl ?_
  by_cases e9 : a1 = 98
  · replace h := h.1 e9
    refine g_look (tgt := 52) B.1 dX13_readsRest_1 (by decide) (by rw [e9] <;> rfl) (by decide) ?_
    refine g_aload_n (np := 53) B.1 dX13_readsRest_52 rfl rfl ?_
    refine g_iload_n (np := 54) B.1 dX13_readsRest_53 rfl rfl ?_
    refine gc_YModel_224 (np := 57) B   (oX13_readsB B.1.tr   a2  _ _ _ h) (Nat.le_of_ble_eq_true rfl) (Nat.le_of_ble_eq_true rfl) (Nat.le_of_ble_eq_true rfl) (Nat.le_of_ble_eq_true rfl) (Nat.le_of_ble_eq_true rfl) dX13_readsRest_54 rfl (fun r1 s2 h => ?_)
    exact g_iret B (ty := .boolean) rfl (nar_z h.1) (Nat.le_of_ble_eq_true rfl) (Nat.le_of_ble_eq_true rfl) dX13_readsRest_57 ⟨_, rfl, h.2⟩
  have n_98 := e9
  clear e9
  by_cases e9 : a1 = 99
  · replace h := h.2.1 e9
    refine g_look (tgt := 101) B.1 dX13_readsRest_1 (by decide) (by rw [e9] <;> rfl) (by decide) ?_
    refine g_aload_n (np := 102) B.1 dX13_readsRest_101 rfl rfl ?_
    refine g_ldcS (np := 104) B.1 (j := 16) (by decide) rfl rfl dX13_readsRest_102 rfl ?_
    refine gc_YModel_209 (np := 107) B   (oX13_isWord B.1.tr   16 (by decide) _ _ _ h) (Nat.le_of_ble_eq_true rfl) (Nat.le_of_ble_eq_true rfl) (Nat.le_of_ble_eq_true rfl) (Nat.le_of_ble_eq_true rfl) (Nat.le_of_ble_eq_true rfl) dX13_readsRest_104 rfl (fun r3 s4 h => ?_)
    refine g_if_eq (np := 110) (tgt := 125) B.1 dX13_readsRest_107 (by decide) rfl (fun q => ?_) (fun q => ?_)
    · replace h := h.1 q
      refine g_iconst (np := 126) (v := 0) B.1 dX13_readsRest_125 (by decide) rfl ?_
      exact g_iret B (ty := .boolean) rfl (by decide) (Nat.le_of_ble_eq_true rfl) (Nat.le_of_ble_eq_true rfl) dX13_readsRest_126 ⟨_, rfl, h⟩
    · replace h := h.2 q
      refine g_aload_n (np := 111) B.1 dX13_readsRest_110 rfl rfl ?_
      refine g_iconst (np := 112) (v := 3) B.1 dX13_readsRest_111 (by decide) rfl ?_
      refine g_iload_n (np := 113) B.1 dX13_readsRest_112 rfl rfl ?_
      refine g_iconst (np := 114) (v := 1) B.1 dX13_readsRest_113 (by decide) rfl ?_
      refine g_iadd (np := 115) B.1 dX13_readsRest_114 rfl ?_
      refine gc_YModel_213 (np := 118) B   (oX13_isSpaced B.1.tr   3 (a2 + 1)  _ _ _ h) (Nat.le_of_ble_eq_true rfl) (Nat.le_of_ble_eq_true rfl) (Nat.le_of_ble_eq_true rfl) (Nat.le_of_ble_eq_true rfl) (Nat.le_of_ble_eq_true rfl) dX13_readsRest_115 rfl (fun r5 s6 h => ?_)
      refine g_if_eq (np := 121) (tgt := 125) B.1 dX13_readsRest_118 (by decide) rfl (fun q => ?_) (fun q => ?_)
      · replace h := h.1 q
        refine g_iconst (np := 126) (v := 0) B.1 dX13_readsRest_125 (by decide) rfl ?_
        exact g_iret B (ty := .boolean) rfl (by decide) (Nat.le_of_ble_eq_true rfl) (Nat.le_of_ble_eq_true rfl) dX13_readsRest_126 ⟨_, rfl, h⟩
      · replace h := h.2 q
        refine g_iconst (np := 122) (v := 1) B.1 dX13_readsRest_121 (by decide) rfl ?_
        refine g_goto (tgt := 126) B.1 dX13_readsRest_122 (by decide) ?_
        exact g_iret B (ty := .boolean) rfl (by decide) (Nat.le_of_ble_eq_true rfl) (Nat.le_of_ble_eq_true rfl) dX13_readsRest_126 ⟨_, rfl, h⟩
  have n_99 := e9
  clear e9
  by_cases e9 : a1 = 109
  · replace h := h.2.2.1 e9
    refine g_look (tgt := 127) B.1 dX13_readsRest_1 (by decide) (by rw [e9] <;> rfl) (by decide) ?_
    refine g_aload_n (np := 128) B.1 dX13_readsRest_127 rfl rfl ?_
    refine g_ldcS (np := 130) B.1 (j := 17) (by decide) rfl rfl dX13_readsRest_128 rfl ?_
    refine gc_YModel_209 (np := 133) B   (oX13_isWord B.1.tr   17 (by decide) _ _ _ h) (Nat.le_of_ble_eq_true rfl) (Nat.le_of_ble_eq_true rfl) (Nat.le_of_ble_eq_true rfl) (Nat.le_of_ble_eq_true rfl) (Nat.le_of_ble_eq_true rfl) dX13_readsRest_130 rfl (fun r7 s8 h => ?_)
    refine g_if_eq (np := 136) (tgt := 151) B.1 dX13_readsRest_133 (by decide) rfl (fun q => ?_) (fun q => ?_)
    · replace h := h.1 q
      refine g_iconst (np := 152) (v := 0) B.1 dX13_readsRest_151 (by decide) rfl ?_
      exact g_iret B (ty := .boolean) rfl (by decide) (Nat.le_of_ble_eq_true rfl) (Nat.le_of_ble_eq_true rfl) dX13_readsRest_152 ⟨_, rfl, h⟩
    · replace h := h.2 q
      refine g_aload_n (np := 137) B.1 dX13_readsRest_136 rfl rfl ?_
      refine g_iconst (np := 138) (v := 1) B.1 dX13_readsRest_137 (by decide) rfl ?_
      refine g_iload_n (np := 139) B.1 dX13_readsRest_138 rfl rfl ?_
      refine g_iconst (np := 140) (v := 1) B.1 dX13_readsRest_139 (by decide) rfl ?_
      refine g_iadd (np := 141) B.1 dX13_readsRest_140 rfl ?_
      refine gc_YModel_213 (np := 144) B   (oX13_isSpaced B.1.tr   1 (a2 + 1)  _ _ _ h) (Nat.le_of_ble_eq_true rfl) (Nat.le_of_ble_eq_true rfl) (Nat.le_of_ble_eq_true rfl) (Nat.le_of_ble_eq_true rfl) (Nat.le_of_ble_eq_true rfl) dX13_readsRest_141 rfl (fun r9 s10 h => ?_)
      refine g_if_eq (np := 147) (tgt := 151) B.1 dX13_readsRest_144 (by decide) rfl (fun q => ?_) (fun q => ?_)
      · replace h := h.1 q
        refine g_iconst (np := 152) (v := 0) B.1 dX13_readsRest_151 (by decide) rfl ?_
        exact g_iret B (ty := .boolean) rfl (by decide) (Nat.le_of_ble_eq_true rfl) (Nat.le_of_ble_eq_true rfl) dX13_readsRest_152 ⟨_, rfl, h⟩
      · replace h := h.2 q
        refine g_iconst (np := 148) (v := 1) B.1 dX13_readsRest_147 (by decide) rfl ?_
        refine g_goto (tgt := 152) B.1 dX13_readsRest_148 (by decide) ?_
        exact g_iret B (ty := .boolean) rfl (by decide) (Nat.le_of_ble_eq_true rfl) (Nat.le_of_ble_eq_true rfl) dX13_readsRest_152 ⟨_, rfl, h⟩
  have n_109 := e9
  clear e9
  by_cases e9 : a1 = 111
  · replace h := h.2.2.2.1 e9
    refine g_look (tgt := 64) B.1 dX13_readsRest_1 (by decide) (by rw [e9] <;> rfl) (by decide) ?_
    refine g_aload_n (np := 65) B.1 dX13_readsRest_64 rfl rfl ?_
    refine g_ldcS (np := 67) B.1 (j := 15) (by decide) rfl rfl dX13_readsRest_65 rfl ?_
    refine gc_YModel_209 (np := 70) B   (oX13_isWord B.1.tr   15 (by decide) _ _ _ h) (Nat.le_of_ble_eq_true rfl) (Nat.le_of_ble_eq_true rfl) (Nat.le_of_ble_eq_true rfl) (Nat.le_of_ble_eq_true rfl) (Nat.le_of_ble_eq_true rfl) dX13_readsRest_67 rfl (fun r11 s12 h => ?_)
    refine g_if_eq (np := 73) (tgt := 99) B.1 dX13_readsRest_70 (by decide) rfl (fun q => ?_) (fun q => ?_)
    · replace h := h.1 q
      refine g_iconst (np := 100) (v := 0) B.1 dX13_readsRest_99 (by decide) rfl ?_
      exact g_iret B (ty := .boolean) rfl (by decide) (Nat.le_of_ble_eq_true rfl) (Nat.le_of_ble_eq_true rfl) dX13_readsRest_100 ⟨_, rfl, h⟩
    · replace h := h.2 q
      refine g_aload_n (np := 74) B.1 dX13_readsRest_73 rfl rfl ?_
      refine g_iconst (np := 75) (v := 3) B.1 dX13_readsRest_74 (by decide) rfl ?_
      refine g_iload_n (np := 76) B.1 dX13_readsRest_75 rfl rfl ?_
      refine g_iconst (np := 77) (v := 1) B.1 dX13_readsRest_76 (by decide) rfl ?_
      refine g_iadd (np := 78) B.1 dX13_readsRest_77 rfl ?_
      refine gc_YModel_213 (np := 81) B   (oX13_isSpaced B.1.tr   3 (a2 + 1)  _ _ _ h) (Nat.le_of_ble_eq_true rfl) (Nat.le_of_ble_eq_true rfl) (Nat.le_of_ble_eq_true rfl) (Nat.le_of_ble_eq_true rfl) (Nat.le_of_ble_eq_true rfl) dX13_readsRest_78 rfl (fun r13 s14 h => ?_)
      refine g_if_eq (np := 84) (tgt := 99) B.1 dX13_readsRest_81 (by decide) rfl (fun q => ?_) (fun q => ?_)
      · replace h := h.1 q
        refine g_iconst (np := 100) (v := 0) B.1 dX13_readsRest_99 (by decide) rfl ?_
        exact g_iret B (ty := .boolean) rfl (by decide) (Nat.le_of_ble_eq_true rfl) (Nat.le_of_ble_eq_true rfl) dX13_readsRest_100 ⟨_, rfl, h⟩
      · replace h := h.2 q
        refine g_aload_n (np := 85) B.1 dX13_readsRest_84 rfl rfl ?_
        refine g_iconst (np := 86) (v := 3) B.1 dX13_readsRest_85 (by decide) rfl ?_
        refine g_iload_n (np := 87) B.1 dX13_readsRest_86 rfl rfl ?_
        refine g_iconst (np := 88) (v := 2) B.1 dX13_readsRest_87 (by decide) rfl ?_
        refine g_iadd (np := 89) B.1 dX13_readsRest_88 rfl ?_
        refine gc_YModel_213 (np := 92) B   (oX13_isSpaced B.1.tr   3 (a2 + 2)  _ _ _ h) (Nat.le_of_ble_eq_true rfl) (Nat.le_of_ble_eq_true rfl) (Nat.le_of_ble_eq_true rfl) (Nat.le_of_ble_eq_true rfl) (Nat.le_of_ble_eq_true rfl) dX13_readsRest_89 rfl (fun r15 s16 h => ?_)
        refine g_if_eq (np := 95) (tgt := 99) B.1 dX13_readsRest_92 (by decide) rfl (fun q => ?_) (fun q => ?_)
        · replace h := h.1 q
          refine g_iconst (np := 100) (v := 0) B.1 dX13_readsRest_99 (by decide) rfl ?_
          exact g_iret B (ty := .boolean) rfl (by decide) (Nat.le_of_ble_eq_true rfl) (Nat.le_of_ble_eq_true rfl) dX13_readsRest_100 ⟨_, rfl, h⟩
        · replace h := h.2 q
          refine g_iconst (np := 96) (v := 1) B.1 dX13_readsRest_95 (by decide) rfl ?_
          refine g_goto (tgt := 100) B.1 dX13_readsRest_96 (by decide) ?_
          exact g_iret B (ty := .boolean) rfl (by decide) (Nat.le_of_ble_eq_true rfl) (Nat.le_of_ble_eq_true rfl) dX13_readsRest_100 ⟨_, rfl, h⟩
  have n_111 := e9
  clear e9
  by_cases e9 : a1 = 115
  · replace h := h.2.2.2.2.1 e9
    refine g_look (tgt := 58) B.1 dX13_readsRest_1 (by decide) (by rw [e9] <;> rfl) (by decide) ?_
    refine g_aload_n (np := 59) B.1 dX13_readsRest_58 rfl rfl ?_
    refine g_iload_n (np := 60) B.1 dX13_readsRest_59 rfl rfl ?_
    refine gc_YModel_227 (np := 63) B   (oX13_readsS B.1.tr   a2  _ _ _ h) (Nat.le_of_ble_eq_true rfl) (Nat.le_of_ble_eq_true rfl) (Nat.le_of_ble_eq_true rfl) (Nat.le_of_ble_eq_true rfl) (Nat.le_of_ble_eq_true rfl) dX13_readsRest_60 rfl (fun r17 s18 h => ?_)
    exact g_iret B (ty := .boolean) rfl (nar_z h.1) (Nat.le_of_ble_eq_true rfl) (Nat.le_of_ble_eq_true rfl) dX13_readsRest_63 ⟨_, rfl, h.2⟩
  have n_115 := e9
  clear e9
  replace h := h.2.2.2.2.2 ⟨n_98, n_99, n_109, n_111, n_115⟩
  refine g_look (tgt := 153) B.1 dX13_readsRest_1 (by decide) (look_dflt _ _ (by simp only [List.forall_mem_cons]; exact ⟨i32_ne n_98 (by decide), i32_ne n_99 (by decide), i32_ne n_109 (by decide), i32_ne n_111 (by decide), i32_ne n_115 (by decide), fun _ z => absurd z List.not_mem_nil⟩)) (by decide) ?_
  refine g_aload_n (np := 154) B.1 dX13_readsRest_153 rfl rfl ?_
  refine g_ldcS (np := 156) B.1 (j := 18) (by decide) rfl rfl dX13_readsRest_154 rfl ?_
  refine gc_YModel_209 (np := 159) B   (oX13_isWord B.1.tr   18 (by decide) _ _ _ h) (Nat.le_of_ble_eq_true rfl) (Nat.le_of_ble_eq_true rfl) (Nat.le_of_ble_eq_true rfl) (Nat.le_of_ble_eq_true rfl) (Nat.le_of_ble_eq_true rfl) dX13_readsRest_156 rfl (fun r19 s20 h => ?_)
  exact g_iret B (ty := .boolean) rfl (nar_z h.1) (Nat.le_of_ble_eq_true rfl) (Nat.le_of_ble_eq_true rfl) dX13_readsRest_159 ⟨_, rfl, h.2⟩
def wX13_readsCommand   (s0 : Mem) (Q : Int32 → Mem → Prop) (E : String → Mem → Prop) : Prop := ∀ v1_1 : Int32, v1_1 = (4 * (rd s0 15 0 19)) → wX13_now   s0 (fun (r2 : Int32) (s3 : Mem) => wX13_isFirst  r2 s3 (fun (r4 : Int32) (s5 : Mem) => ((¬ r4 = 0 → vp_in v1_1 (iaLen 16) ∧ ∀ s6 : Mem, s6 = wr s5 10 16 v1_1.toNatClampNeg r2 → ∀ s7 : Mem, s7 = wr s6 15 0 18 ((rd s6 15 0 18) + 1) → ∀ s8 : Mem, s8 = wr s7 15 0 19 ((rd s7 15 0 19) + 1) → wX13_readsRest  r2 v1_1 s8 (fun (r9 : Int32) (s10 : Mem) => (r9 = 0 ∨ r9 = 1) ∧ Q r9 s10) E) ∧ (r4 = 0 → Q 0 s5))) E) E
set_option maxRecDepth 20000 in
set_option maxHeartbeats 4000000 in
theorem oX13_readsCommand {l : Launch} {x : Ctx} (hl : l.stackTraces = false)     (s0 : Mem) (Q : Int32 → Mem → Prop) (E : String → Mem → Prop) (h : wX13_readsCommand   s0 Q E) : MetG l x yX13_readsCommand cX13_readsCommand 3 (some .boolean) 7 158 0 0 [.ref (xad x 15 0)] s0 (RI Q) E := by
  refine MetG.of hl (by decide) (Nat.le_of_ble_eq_true rfl) [some (.ref (xad x 15 0)), none, none] rfl (fun K B hx _ => ?_)
  subst hx
  unfold wX13_readsCommand at h
  refine g_iconst (np := 1) (v := 4) B.1 dX13_readsCommand_0 (by decide) rfl ?_
  refine g_aload_n (np := 2) B.1 dX13_readsCommand_1 rfl rfl ?_
  refine gf_YModel_238_15 (np := 5) B.1 dX13_readsCommand_2 rfl ?_
  refine g_imul (np := 6) B.1 dX13_readsCommand_5 rfl ?_
  refine g_topi (fun v1_1 ev1_1 => ?_)
  replace h := h v1_1 ev1_1
  refine g_istore_n (np := 7) (lv' := [some (.ref (xad (fX K) 15 0)), some (.int v1_1), none]) B.1 dX13_readsCommand_6 (by decide) rfl rfl rfl ?_
  refine g_aload_n (np := 8) B.1 dX13_readsCommand_7 rfl rfl ?_
  refine gc_YModel_192 (np := 11) B   (oX13_now B.1.tr     _ _ _ h) (Nat.le_of_ble_eq_true rfl) (Nat.le_of_ble_eq_true rfl) (Nat.le_of_ble_eq_true rfl) (Nat.le_of_ble_eq_true rfl) (Nat.le_of_ble_eq_true rfl) dX13_readsCommand_8 rfl (fun r2 s3 h => ?_)
  refine g_istore_n (np := 12) (lv' := [some (.ref (xad (fX K) 15 0)), some (.int v1_1), some (.int r2)]) B.1 dX13_readsCommand_11 (by decide) rfl rfl rfl ?_
  refine g_iload_n (np := 13) B.1 dX13_readsCommand_12 rfl rfl ?_
  refine gc_YModel_241 (np := 16) B   (oX13_isFirst B.1.tr   r2  _ _ _ h) (Nat.le_of_ble_eq_true rfl) (Nat.le_of_ble_eq_true rfl) (Nat.le_of_ble_eq_true rfl) (Nat.le_of_ble_eq_true rfl) (Nat.le_of_ble_eq_true rfl) dX13_readsCommand_13 rfl (fun r4 s5 h => ?_)
  refine g_if_ne (np := 19) (tgt := 21) B.1 dX13_readsCommand_16 (by decide) rfl (fun q => ?_) (fun q => ?_)
  · replace h := h.1 q
    refine g_aload_n (np := 22) B.1 dX13_readsCommand_21 rfl rfl ?_
    refine gf_YModel_41_15 (np := 25) B.1 dX13_readsCommand_22 rfl ?_
    refine g_iload_n (np := 26) B.1 dX13_readsCommand_25 rfl rfl ?_
    refine g_iload_n (np := 27) B.1 dX13_readsCommand_26 rfl rfl ?_
    refine g_iast (np := 28) B.1 10 16 (by decide) rfl (fun _ _ => rfl) h.1 dX13_readsCommand_27 rfl ?_
    replace h := h.2
    refine g_mem (fun s6 es6 => ?_)
    replace h := h s6 es6
    refine g_aload_n (np := 29) B.1 dX13_readsCommand_28 rfl rfl ?_
    refine g_dup (np := 30) B.1 dX13_readsCommand_29 rfl rfl ?_
    refine gf_YModel_189_15 (np := 33) B.1 dX13_readsCommand_30 rfl ?_
    refine g_iconst (np := 34) (v := 1) B.1 dX13_readsCommand_33 (by decide) rfl ?_
    refine g_iadd (np := 35) B.1 dX13_readsCommand_34 rfl ?_
    refine gp_YModel_189_15 (np := 38) B.1 dX13_readsCommand_35 rfl ?_
    refine g_mem (fun s7 es7 => ?_)
    replace h := h s7 es7
    refine g_aload_n (np := 39) B.1 dX13_readsCommand_38 rfl rfl ?_
    refine g_dup (np := 40) B.1 dX13_readsCommand_39 rfl rfl ?_
    refine gf_YModel_238_15 (np := 43) B.1 dX13_readsCommand_40 rfl ?_
    refine g_iconst (np := 44) (v := 1) B.1 dX13_readsCommand_43 (by decide) rfl ?_
    refine g_iadd (np := 45) B.1 dX13_readsCommand_44 rfl ?_
    refine gp_YModel_238_15 (np := 48) B.1 dX13_readsCommand_45 rfl ?_
    refine g_mem (fun s8 es8 => ?_)
    replace h := h s8 es8
    refine g_aload_n (np := 49) B.1 dX13_readsCommand_48 rfl rfl ?_
    refine g_iload_n (np := 50) B.1 dX13_readsCommand_49 rfl rfl ?_
    refine g_iload_n (np := 51) B.1 dX13_readsCommand_50 rfl rfl ?_
    refine gc_YModel_244 (np := 54) B   (oX13_readsRest B.1.tr   r2 v1_1  _ _ _ h) (Nat.le_of_ble_eq_true rfl) (Nat.le_of_ble_eq_true rfl) (Nat.le_of_ble_eq_true rfl) (Nat.le_of_ble_eq_true rfl) (Nat.le_of_ble_eq_true rfl) dX13_readsCommand_51 rfl (fun r9 s10 h => ?_)
    exact g_iret B (ty := .boolean) rfl (nar_z h.1) (Nat.le_of_ble_eq_true rfl) (Nat.le_of_ble_eq_true rfl) dX13_readsCommand_54 ⟨_, rfl, h.2⟩
  · replace h := h.2 q
    refine g_iconst (np := 20) (v := 0) B.1 dX13_readsCommand_19 (by decide) rfl ?_
    exact g_iret B (ty := .boolean) rfl (by decide) (Nat.le_of_ble_eq_true rfl) (Nat.le_of_ble_eq_true rfl) dX13_readsCommand_20 ⟨_, rfl, h⟩
def wX13_isScript_15   (Q : Int32 → Mem → Prop) (E : String → Mem → Prop)  (X36 : Int32 → Mem → Prop) : Nat → Int32 → Mem → Prop
  | 0, _, _ => False
  | n15 + 1, v1, s0 => ((v1 = 0 → X36 v1 s0) ∧ (¬ v1 = 0 → wX13_isSign  59 s0 (fun (r5 : Int32) (s6 : Mem) => ((r5 = 0 → X36 v1 s6) ∧ (¬ r5 = 0 → wX13_readsCommand   s6 (fun (r7 : Int32) (s8 : Mem) => wX13_isScript_15   Q E X36 n15 r7 s8) E))) E))
def wX13_isScript   (s0 : Mem) (Q : Int32 → Mem → Prop) (E : String → Mem → Prop) : Prop := ∀ s1 : Mem, s1 = wr s0 15 0 18 0 → ∀ s2 : Mem, s2 = wr s1 15 0 19 0 → wX13_readsCommand   s2 (fun (r3 : Int32) (s4 : Mem) => ∃ m11 : Nat, wX13_isScript_15   Q E (fun (x1_9 : Int32) (s10 : Mem) => ((x1_9 = 0 → Q 0 s10) ∧ (¬ x1_9 = 0 → ((¬ rd s10 15 0 18 = rd s10 15 0 17 → Q 0 s10) ∧ (rd s10 15 0 18 = rd s10 15 0 17 → Q 1 s10))))) m11 r3  s4) E
set_option maxRecDepth 20000 in
set_option maxHeartbeats 4000000 in
theorem oX13_isScript_15 {K : Fr} {Q : Int32 → Mem → Prop} {E : String → Mem → Prop} (B : Bd K cX13_isScript "YarnMillModel" 2 (some .boolean) 8 180 0 0 (RI Q) E)    {X36 : Int32 → Mem → Prop} {cells slots : Nat} (hX36 : ∀ (y1 : Int32) (τ : Mem), X36 y1 τ → Go K cells slots τ 36 [some (.ref (xad (fX K) 15 0)), some (.int y1)] ([])) (hc : cells ≤ 0) (hs : slots ≤ 0) : ∀ (n : Nat) (v1 : Int32) (s0 : Mem), wX13_isScript_15   Q E X36 n v1 s0 → Go K cells slots s0 15 [some (.ref (xad (fX K) 15 0)), some (.int v1)] ([]) := by
  intro n
  induction n with
  | zero => intro v1 s0 h; exact absurd h (by simp [wX13_isScript_15])
  | succ n ih =>
    intro v1 s0 h
    simp only [wX13_isScript_15] at h
    refine g_iload_n (np := 16) B.1 dX13_isScript_15 rfl rfl ?_
    refine g_if_eq (np := 19) (tgt := 36) B.1 dX13_isScript_16 (by decide) rfl (fun q => ?_) (fun q => ?_)
    · replace h := h.1 q
      refine Go.lle [some (.ref (xad (fX K) 15 0)), some (.int v1)] (by simp [lle]) ?_
      exact hX36 v1 s0 h
    · replace h := h.2 q
      refine g_aload_n (np := 20) B.1 dX13_isScript_19 rfl rfl ?_
      refine g_bipush (np := 22) (v := 59) B.1 dX13_isScript_20 (by decide) rfl ?_
      refine gc_YModel_195 (np := 25) B   (oX13_isSign B.1.tr   59  _ _ _ h) (Nat.le_of_ble_eq_true rfl) (Nat.le_of_ble_eq_true rfl) (Nat.le_of_ble_eq_true rfl) hc hs dX13_isScript_22 rfl (fun r5 s6 h => ?_)
      refine g_if_eq (np := 28) (tgt := 36) B.1 dX13_isScript_25 (by decide) rfl (fun q => ?_) (fun q => ?_)
      · replace h := h.1 q
        refine Go.lle [some (.ref (xad (fX K) 15 0)), some (.int v1)] (by simp [lle]) ?_
        exact hX36 v1 s6 h
      · replace h := h.2 q
        refine g_aload_n (np := 29) B.1 dX13_isScript_28 rfl rfl ?_
        refine gc_YModel_247 (np := 32) B   (oX13_readsCommand B.1.tr     _ _ _ h) (Nat.le_of_ble_eq_true rfl) (Nat.le_of_ble_eq_true rfl) (Nat.le_of_ble_eq_true rfl) hc hs dX13_isScript_29 rfl (fun r7 s8 h => ?_)
        refine g_istore_n (np := 33) (lv' := [some (.ref (xad (fX K) 15 0)), some (.int r7)]) B.1 dX13_isScript_32 (by decide) rfl rfl rfl ?_
        refine g_goto (tgt := 15) B.1 dX13_isScript_33 (by decide) ?_
        refine Go.lle [some (.ref (xad (fX K) 15 0)), some (.int r7)] (by simp [lle]) ?_
        exact ih r7 s8 h
set_option maxRecDepth 20000 in
set_option maxHeartbeats 4000000 in
theorem oX13_isScript {l : Launch} {x : Ctx} (hl : l.stackTraces = false)     (s0 : Mem) (Q : Int32 → Mem → Prop) (E : String → Mem → Prop) (h : wX13_isScript   s0 Q E) : MetG l x yX13_isScript cX13_isScript 2 (some .boolean) 8 180 0 0 [.ref (xad x 15 0)] s0 (RI Q) E := by
  refine MetG.of hl (by decide) (Nat.le_of_ble_eq_true rfl) [some (.ref (xad x 15 0)), none] rfl (fun K B hx _ => ?_)
  subst hx
  unfold wX13_isScript at h
  refine g_aload_n (np := 1) B.1 dX13_isScript_0 rfl rfl ?_
  refine g_iconst (np := 2) (v := 0) B.1 dX13_isScript_1 (by decide) rfl ?_
  refine gp_YModel_189_15 (np := 5) B.1 dX13_isScript_2 rfl ?_
  refine g_mem (fun s1 es1 => ?_)
  replace h := h s1 es1
  refine g_aload_n (np := 6) B.1 dX13_isScript_5 rfl rfl ?_
  refine g_iconst (np := 7) (v := 0) B.1 dX13_isScript_6 (by decide) rfl ?_
  refine gp_YModel_238_15 (np := 10) B.1 dX13_isScript_7 rfl ?_
  refine g_mem (fun s2 es2 => ?_)
  replace h := h s2 es2
  refine g_aload_n (np := 11) B.1 dX13_isScript_10 rfl rfl ?_
  refine gc_YModel_247 (np := 14) B   (oX13_readsCommand B.1.tr     _ _ _ h) (Nat.le_of_ble_eq_true rfl) (Nat.le_of_ble_eq_true rfl) (Nat.le_of_ble_eq_true rfl) (Nat.le_of_ble_eq_true rfl) (Nat.le_of_ble_eq_true rfl) dX13_isScript_11 rfl (fun r3 s4 h => ?_)
  refine g_istore_n (np := 15) (lv' := [some (.ref (xad (fX K) 15 0)), some (.int r3)]) B.1 dX13_isScript_14 (by decide) rfl rfl rfl ?_
  obtain ⟨m11, h⟩ := h
  refine Go.lle [some (.ref (xad (fX K) 15 0)), some (.int r3)] (by simp [lle]) ?_
  refine oX13_isScript_15 B    (fun x1_9 s10 h => ?_) (Nat.le_of_ble_eq_true rfl) (Nat.le_of_ble_eq_true rfl) m11 r3  s4 h
  refine g_iload_n (np := 37) B.1 dX13_isScript_36 rfl rfl ?_
  refine g_if_eq (np := 40) (tgt := 55) B.1 dX13_isScript_37 (by decide) rfl (fun q => ?_) (fun q => ?_)
  · replace h := h.1 q
    refine g_iconst (np := 56) (v := 0) B.1 dX13_isScript_55 (by decide) rfl ?_
    exact g_iret B (ty := .boolean) rfl (by decide) (Nat.le_of_ble_eq_true rfl) (Nat.le_of_ble_eq_true rfl) dX13_isScript_56 ⟨_, rfl, h⟩
  · replace h := h.2 q
    refine g_aload_n (np := 41) B.1 dX13_isScript_40 rfl rfl ?_
    refine gf_YModel_189_15 (np := 44) B.1 dX13_isScript_41 rfl ?_
    refine g_aload_n (np := 45) B.1 dX13_isScript_44 rfl rfl ?_
    refine gf_YModel_186_15 (np := 48) B.1 dX13_isScript_45 rfl ?_
    refine g_icmp_ne (np := 51) (tgt := 55) B.1 dX13_isScript_48 (by decide) rfl (fun q => ?_) (fun q => ?_)
    · replace h := h.1 q
      refine g_iconst (np := 56) (v := 0) B.1 dX13_isScript_55 (by decide) rfl ?_
      exact g_iret B (ty := .boolean) rfl (by decide) (Nat.le_of_ble_eq_true rfl) (Nat.le_of_ble_eq_true rfl) dX13_isScript_56 ⟨_, rfl, h⟩
    · replace h := h.2 q
      refine g_iconst (np := 52) (v := 1) B.1 dX13_isScript_51 (by decide) rfl ?_
      refine g_goto (tgt := 56) B.1 dX13_isScript_52 (by decide) ?_
      exact g_iret B (ty := .boolean) rfl (by decide) (Nat.le_of_ble_eq_true rfl) (Nat.le_of_ble_eq_true rfl) dX13_isScript_56 ⟨_, rfl, h⟩
def wX13_runScript_43   (Q : Int32 → Mem → Prop) (E : String → Mem → Prop)  (X74 : Int32 → Mem → Prop) (X105 : Mem → Prop) : Nat → Int32 → Mem → Prop
  | 0, _, _ => False
  | n43 + 1, v2, s0 => ((rd s0 15 0 19 ≤ v2 → X105  s0) ∧ (¬ rd s0 15 0 19 ≤ v2 → ∀ s8 : Mem, s8 = wr s0 15 0 7 0 → wX13_does  (4 * v2) s8 (fun (r9 : Int32) (s10 : Mem) => ∀ s11 : Mem, s11 = wr s10 15 0 10 r9 → ((rd s11 15 0 7 = 0 → ∀ v2_12 : Int32, v2_12 = (v2 + 1) → wX13_runScript_43   Q E X74 X105 n43 v2_12 s11) ∧ (¬ rd s11 15 0 7 = 0 → X74 v2 s11))) E))
def wX13_runScript   (s0 : Mem) (Q : Int32 → Mem → Prop) (E : String → Mem → Prop) : Prop := wX13_isScript   s0 (fun (r1 : Int32) (s2 : Mem) => ∀ s3 : Mem, s3 = wr s2 15 0 17 0 → ((¬ r1 = 0 → wX13_isThrown  0 1 s3 (fun (r4 : Int32) (s5 : Mem) => ((r4 = 0 → wX13_keeps   s5 (fun (s7 : Mem) => ∃ m22 : Nat, wX13_runScript_43   Q E (fun (x2_13 : Int32) (s14 : Mem) => wX13_copies 9 8 0 0 s14 (fun (s16 : Mem) => ∀ s17 : Mem, s17 = wr s16 15 0 9 x2_13 → ∀ s18 : Mem, s18 = wr s17 15 0 7 2 → Q 0 s18) E) (fun (s19 : Mem) => wX13_ends  (rd s19 15 0 19) s19 (fun (r20 : Int32) (s21 : Mem) => Q r20 s21) E) m22 0  s7) E) ∧ (¬ r4 = 0 → ∀ s23 : Mem, s23 = wr s5 15 0 8 (rd s5 15 0 18) → Q 0 s23))) E) ∧ (r1 = 0 → wX13_isThrown  1 1 s3 (fun (r24 : Int32) (s25 : Mem) => ((r24 = 0 → wX13_keeps   s25 (fun (s27 : Mem) => ∃ m37 : Nat, wX13_runScript_43   Q E (fun (x2_28 : Int32) (s29 : Mem) => wX13_copies 9 8 0 0 s29 (fun (s31 : Mem) => ∀ s32 : Mem, s32 = wr s31 15 0 9 x2_28 → ∀ s33 : Mem, s33 = wr s32 15 0 7 2 → Q 0 s33) E) (fun (s34 : Mem) => wX13_ends  (rd s34 15 0 19) s34 (fun (r35 : Int32) (s36 : Mem) => Q r35 s36) E) m37 0  s27) E) ∧ (¬ r24 = 0 → ∀ s38 : Mem, s38 = wr s25 15 0 8 (rd s25 15 0 18) → Q 0 s38))) E))) E
set_option maxRecDepth 20000 in
set_option maxHeartbeats 4000000 in
theorem oX13_runScript_43 {K : Fr} {Q : Int32 → Mem → Prop} {E : String → Mem → Prop} (B : Bd K cX13_runScript "YarnMillModel" 3 (some .int) 9 201 0 0 (RI Q) E)    {X74 : Int32 → Mem → Prop} {X105 : Mem → Prop} {cells slots : Nat} (hX74 : ∀ (y2 : Int32) (τ : Mem), X74 y2 τ → Go K cells slots τ 74 [some (.ref (xad (fX K) 15 0)), none, some (.int y2)] ([])) (hX105 : ∀ (τ : Mem), X105  τ → Go K cells slots τ 105 [some (.ref (xad (fX K) 15 0)), none, none] ([])) (hc : cells ≤ 0) (hs : slots ≤ 0) : ∀ (n : Nat) (v2 : Int32) (s0 : Mem), wX13_runScript_43   Q E X74 X105 n v2 s0 → Go K cells slots s0 43 [some (.ref (xad (fX K) 15 0)), none, some (.int v2)] ([]) := by
  intro n
  induction n with
  | zero => intro v2 s0 h; exact absurd h (by simp [wX13_runScript_43])
  | succ n ih =>
    intro v2 s0 h
    simp only [wX13_runScript_43] at h
    refine g_iload_n (np := 44) B.1 dX13_runScript_43 rfl rfl ?_
    refine g_aload_n (np := 45) B.1 dX13_runScript_44 rfl rfl ?_
    refine gf_YModel_238_15 (np := 48) B.1 dX13_runScript_45 rfl ?_
    refine g_icmp_ge (np := 51) (tgt := 105) B.1 dX13_runScript_48 (by decide) rfl (fun q => ?_) (fun q => ?_)
    · replace h := h.1 q
      refine Go.lle [some (.ref (xad (fX K) 15 0)), none, none] (by simp [lle]) ?_
      exact hX105  s0 h
    · replace h := h.2 q
      refine g_aload_n (np := 52) B.1 dX13_runScript_51 rfl rfl ?_
      refine g_iconst (np := 53) (v := 0) B.1 dX13_runScript_52 (by decide) rfl ?_
      refine gp_YModel_44_15 (np := 56) B.1 dX13_runScript_53 rfl ?_
      refine g_mem (fun s8 es8 => ?_)
      replace h := h s8 es8
      refine g_aload_n (np := 57) B.1 dX13_runScript_56 rfl rfl ?_
      refine g_aload_n (np := 58) B.1 dX13_runScript_57 rfl rfl ?_
      refine g_iconst (np := 59) (v := 4) B.1 dX13_runScript_58 (by decide) rfl ?_
      refine g_iload_n (np := 60) B.1 dX13_runScript_59 rfl rfl ?_
      refine g_imul (np := 61) B.1 dX13_runScript_60 rfl ?_
      refine gc_YModel_254 (np := 64) B   (oX13_does B.1.tr   (4 * v2)  _ _ _ h) (Nat.le_of_ble_eq_true rfl) (Nat.le_of_ble_eq_true rfl) (Nat.le_of_ble_eq_true rfl) hc hs dX13_runScript_61 rfl (fun r9 s10 h => ?_)
      refine gp_YModel_257_15 (np := 67) B.1 dX13_runScript_64 rfl ?_
      refine g_mem (fun s11 es11 => ?_)
      replace h := h s11 es11
      refine g_aload_n (np := 68) B.1 dX13_runScript_67 rfl rfl ?_
      refine gf_YModel_44_15 (np := 71) B.1 dX13_runScript_68 rfl ?_
      refine g_if_eq (np := 74) (tgt := 99) B.1 dX13_runScript_71 (by decide) rfl (fun q => ?_) (fun q => ?_)
      · replace h := h.1 q
        obtain ⟨v2_12, ev2_12⟩ : ∃ y : Int32, y = v2 + 1 := ⟨_, rfl⟩
        replace h := h v2_12 ev2_12
        refine g_iinc (np := 102) (v := v2_12) (lv' := [some (.ref (xad (fX K) 15 0)), none, some (.int v2_12)]) B.1 dX13_runScript_99 rfl (by rw [ev2_12]; rfl) (by decide) rfl rfl rfl ?_
        refine g_goto (tgt := 43) B.1 dX13_runScript_102 (by decide) ?_
        refine Go.lle [some (.ref (xad (fX K) 15 0)), none, some (.int v2_12)] (by simp [lle]) ?_
        exact ih v2_12 s11 h
      · replace h := h.2 q
        refine Go.lle [some (.ref (xad (fX K) 15 0)), none, some (.int v2)] (by simp [lle]) ?_
        exact hX74 v2 s11 h
set_option maxRecDepth 20000 in
set_option maxHeartbeats 4000000 in
theorem oX13_runScript {l : Launch} {x : Ctx} (hl : l.stackTraces = false)     (s0 : Mem) (Q : Int32 → Mem → Prop) (E : String → Mem → Prop) (h : wX13_runScript   s0 Q E) : MetG l x yX13_runScript cX13_runScript 3 (some .int) 9 201 0 0 [.ref (xad x 15 0)] s0 (RI Q) E := by
  refine MetG.of hl (by decide) (Nat.le_of_ble_eq_true rfl) [some (.ref (xad x 15 0)), none, none] rfl (fun K B hx _ => ?_)
  subst hx
  unfold wX13_runScript at h
  refine g_aload_n (np := 1) B.1 dX13_runScript_0 rfl rfl ?_
  refine gc_YModel_251 (np := 4) B   (oX13_isScript B.1.tr     _ _ _ h) (Nat.le_of_ble_eq_true rfl) (Nat.le_of_ble_eq_true rfl) (Nat.le_of_ble_eq_true rfl) (Nat.le_of_ble_eq_true rfl) (Nat.le_of_ble_eq_true rfl) dX13_runScript_1 rfl (fun r1 s2 h => ?_)
  refine g_istore_n (np := 5) (lv' := [some (.ref (xad (fX K) 15 0)), some (.int r1), none]) B.1 dX13_runScript_4 (by decide) rfl rfl rfl ?_
  refine g_aload_n (np := 6) B.1 dX13_runScript_5 rfl rfl ?_
  refine g_iconst (np := 7) (v := 0) B.1 dX13_runScript_6 (by decide) rfl ?_
  refine gp_YModel_186_15 (np := 10) B.1 dX13_runScript_7 rfl ?_
  refine g_mem (fun s3 es3 => ?_)
  replace h := h s3 es3
  refine g_aload_n (np := 11) B.1 dX13_runScript_10 rfl rfl ?_
  refine g_iload_n (np := 12) B.1 dX13_runScript_11 rfl rfl ?_
  refine g_if_ne (np := 15) (tgt := 19) B.1 dX13_runScript_12 (by decide) rfl (fun q => ?_) (fun q => ?_)
  · replace h := h.1 q
    refine g_iconst (np := 20) (v := 0) B.1 dX13_runScript_19 (by decide) rfl ?_
    refine g_iconst (np := 21) (v := 1) B.1 dX13_runScript_20 (by decide) rfl ?_
    refine gc_YModel_65 (np := 24) B   (oX13_isThrown B.1.tr   0 1  _ _ _ h) (Nat.le_of_ble_eq_true rfl) (Nat.le_of_ble_eq_true rfl) (Nat.le_of_ble_eq_true rfl) (Nat.le_of_ble_eq_true rfl) (Nat.le_of_ble_eq_true rfl) dX13_runScript_21 rfl (fun r4 s5 h => ?_)
    refine g_if_eq (np := 27) (tgt := 37) B.1 dX13_runScript_24 (by decide) rfl (fun q => ?_) (fun q => ?_)
    · replace h := h.1 q
      refine g_aload_n (np := 38) B.1 dX13_runScript_37 rfl rfl ?_
      refine gc_YModel_69 (np := 41) B   (oX13_keeps B.1.tr     _ _ _ h) (Nat.le_of_ble_eq_true rfl) (Nat.le_of_ble_eq_true rfl) (Nat.le_of_ble_eq_true rfl) (Nat.le_of_ble_eq_true rfl) (Nat.le_of_ble_eq_true rfl) dX13_runScript_38 rfl (fun s7 h => ?_)
      refine g_iconst (np := 42) (v := 0) B.1 dX13_runScript_41 (by decide) rfl ?_
      refine g_istore_n (np := 43) (lv' := [some (.ref (xad (fX K) 15 0)), some (.int r1), some (.int 0)]) B.1 dX13_runScript_42 (by decide) rfl rfl rfl ?_
      obtain ⟨m22, h⟩ := h
      refine Go.lle [some (.ref (xad (fX K) 15 0)), none, some (.int 0)] (by simp [lle]) ?_
      refine oX13_runScript_43 B    (fun x2_13 s14 h => ?_) (fun s19 h => ?_) (Nat.le_of_ble_eq_true rfl) (Nat.le_of_ble_eq_true rfl) m22 0  s7 h
      · refine g_aload_n (np := 75) B.1 dX13_runScript_74 rfl rfl ?_
        refine gf_YModel_13_15 (np := 78) B.1 dX13_runScript_75 rfl ?_
        refine g_iconst (np := 79) (v := 0) B.1 dX13_runScript_78 (by decide) rfl ?_
        refine g_aload_n (np := 80) B.1 dX13_runScript_79 rfl rfl ?_
        refine gf_YModel_9_15 (np := 83) B.1 dX13_runScript_80 rfl ?_
        refine g_iconst (np := 84) (v := 0) B.1 dX13_runScript_83 (by decide) rfl ?_
        refine gc_YModel_47 (np := 87) B 9 8 (by decide) (by decide) (oX13_copies B.1.tr 9 8 (by decide) (by decide) 0 0  _ _ _ h) (Nat.le_of_ble_eq_true rfl) (Nat.le_of_ble_eq_true rfl) (Nat.le_of_ble_eq_true rfl) (Nat.le_of_ble_eq_true rfl) (Nat.le_of_ble_eq_true rfl) dX13_runScript_84 rfl (fun s16 h => ?_)
        refine g_aload_n (np := 88) B.1 dX13_runScript_87 rfl rfl ?_
        refine g_iload_n (np := 89) B.1 dX13_runScript_88 rfl rfl ?_
        refine gp_YModel_32_15 (np := 92) B.1 dX13_runScript_89 rfl ?_
        refine g_mem (fun s17 es17 => ?_)
        replace h := h s17 es17
        refine g_aload_n (np := 93) B.1 dX13_runScript_92 rfl rfl ?_
        refine g_iconst (np := 94) (v := 2) B.1 dX13_runScript_93 (by decide) rfl ?_
        refine gp_YModel_44_15 (np := 97) B.1 dX13_runScript_94 rfl ?_
        refine g_mem (fun s18 es18 => ?_)
        replace h := h s18 es18
        refine g_iconst (np := 98) (v := 0) B.1 dX13_runScript_97 (by decide) rfl ?_
        exact g_iret B (ty := .int) rfl rfl (Nat.le_of_ble_eq_true rfl) (Nat.le_of_ble_eq_true rfl) dX13_runScript_98 ⟨_, rfl, h⟩
      · refine g_aload_n (np := 106) B.1 dX13_runScript_105 rfl rfl ?_
        refine g_aload_n (np := 107) B.1 dX13_runScript_106 rfl rfl ?_
        refine gf_YModel_238_15 (np := 110) B.1 dX13_runScript_107 rfl ?_
        refine gc_YModel_76 (np := 113) B   (oX13_ends B.1.tr   (rd s19 15 0 19)  _ _ _ h) (Nat.le_of_ble_eq_true rfl) (Nat.le_of_ble_eq_true rfl) (Nat.le_of_ble_eq_true rfl) (Nat.le_of_ble_eq_true rfl) (Nat.le_of_ble_eq_true rfl) dX13_runScript_110 rfl (fun r20 s21 h => ?_)
        exact g_iret B (ty := .int) rfl rfl (Nat.le_of_ble_eq_true rfl) (Nat.le_of_ble_eq_true rfl) dX13_runScript_113 ⟨_, rfl, h⟩
    · replace h := h.2 q
      refine g_aload_n (np := 28) B.1 dX13_runScript_27 rfl rfl ?_
      refine g_aload_n (np := 29) B.1 dX13_runScript_28 rfl rfl ?_
      refine gf_YModel_189_15 (np := 32) B.1 dX13_runScript_29 rfl ?_
      refine gp_YModel_28_15 (np := 35) B.1 dX13_runScript_32 rfl ?_
      refine g_mem (fun s23 es23 => ?_)
      replace h := h s23 es23
      refine g_iconst (np := 36) (v := 0) B.1 dX13_runScript_35 (by decide) rfl ?_
      exact g_iret B (ty := .int) rfl rfl (Nat.le_of_ble_eq_true rfl) (Nat.le_of_ble_eq_true rfl) dX13_runScript_36 ⟨_, rfl, h⟩
  · replace h := h.2 q
    refine g_iconst (np := 16) (v := 1) B.1 dX13_runScript_15 (by decide) rfl ?_
    refine g_goto (tgt := 20) B.1 dX13_runScript_16 (by decide) ?_
    refine g_iconst (np := 21) (v := 1) B.1 dX13_runScript_20 (by decide) rfl ?_
    refine gc_YModel_65 (np := 24) B   (oX13_isThrown B.1.tr   1 1  _ _ _ h) (Nat.le_of_ble_eq_true rfl) (Nat.le_of_ble_eq_true rfl) (Nat.le_of_ble_eq_true rfl) (Nat.le_of_ble_eq_true rfl) (Nat.le_of_ble_eq_true rfl) dX13_runScript_21 rfl (fun r24 s25 h => ?_)
    refine g_if_eq (np := 27) (tgt := 37) B.1 dX13_runScript_24 (by decide) rfl (fun q => ?_) (fun q => ?_)
    · replace h := h.1 q
      refine g_aload_n (np := 38) B.1 dX13_runScript_37 rfl rfl ?_
      refine gc_YModel_69 (np := 41) B   (oX13_keeps B.1.tr     _ _ _ h) (Nat.le_of_ble_eq_true rfl) (Nat.le_of_ble_eq_true rfl) (Nat.le_of_ble_eq_true rfl) (Nat.le_of_ble_eq_true rfl) (Nat.le_of_ble_eq_true rfl) dX13_runScript_38 rfl (fun s27 h => ?_)
      refine g_iconst (np := 42) (v := 0) B.1 dX13_runScript_41 (by decide) rfl ?_
      refine g_istore_n (np := 43) (lv' := [some (.ref (xad (fX K) 15 0)), some (.int r1), some (.int 0)]) B.1 dX13_runScript_42 (by decide) rfl rfl rfl ?_
      obtain ⟨m37, h⟩ := h
      refine Go.lle [some (.ref (xad (fX K) 15 0)), none, some (.int 0)] (by simp [lle]) ?_
      refine oX13_runScript_43 B    (fun x2_28 s29 h => ?_) (fun s34 h => ?_) (Nat.le_of_ble_eq_true rfl) (Nat.le_of_ble_eq_true rfl) m37 0  s27 h
      · refine g_aload_n (np := 75) B.1 dX13_runScript_74 rfl rfl ?_
        refine gf_YModel_13_15 (np := 78) B.1 dX13_runScript_75 rfl ?_
        refine g_iconst (np := 79) (v := 0) B.1 dX13_runScript_78 (by decide) rfl ?_
        refine g_aload_n (np := 80) B.1 dX13_runScript_79 rfl rfl ?_
        refine gf_YModel_9_15 (np := 83) B.1 dX13_runScript_80 rfl ?_
        refine g_iconst (np := 84) (v := 0) B.1 dX13_runScript_83 (by decide) rfl ?_
        refine gc_YModel_47 (np := 87) B 9 8 (by decide) (by decide) (oX13_copies B.1.tr 9 8 (by decide) (by decide) 0 0  _ _ _ h) (Nat.le_of_ble_eq_true rfl) (Nat.le_of_ble_eq_true rfl) (Nat.le_of_ble_eq_true rfl) (Nat.le_of_ble_eq_true rfl) (Nat.le_of_ble_eq_true rfl) dX13_runScript_84 rfl (fun s31 h => ?_)
        refine g_aload_n (np := 88) B.1 dX13_runScript_87 rfl rfl ?_
        refine g_iload_n (np := 89) B.1 dX13_runScript_88 rfl rfl ?_
        refine gp_YModel_32_15 (np := 92) B.1 dX13_runScript_89 rfl ?_
        refine g_mem (fun s32 es32 => ?_)
        replace h := h s32 es32
        refine g_aload_n (np := 93) B.1 dX13_runScript_92 rfl rfl ?_
        refine g_iconst (np := 94) (v := 2) B.1 dX13_runScript_93 (by decide) rfl ?_
        refine gp_YModel_44_15 (np := 97) B.1 dX13_runScript_94 rfl ?_
        refine g_mem (fun s33 es33 => ?_)
        replace h := h s33 es33
        refine g_iconst (np := 98) (v := 0) B.1 dX13_runScript_97 (by decide) rfl ?_
        exact g_iret B (ty := .int) rfl rfl (Nat.le_of_ble_eq_true rfl) (Nat.le_of_ble_eq_true rfl) dX13_runScript_98 ⟨_, rfl, h⟩
      · refine g_aload_n (np := 106) B.1 dX13_runScript_105 rfl rfl ?_
        refine g_aload_n (np := 107) B.1 dX13_runScript_106 rfl rfl ?_
        refine gf_YModel_238_15 (np := 110) B.1 dX13_runScript_107 rfl ?_
        refine gc_YModel_76 (np := 113) B   (oX13_ends B.1.tr   (rd s34 15 0 19)  _ _ _ h) (Nat.le_of_ble_eq_true rfl) (Nat.le_of_ble_eq_true rfl) (Nat.le_of_ble_eq_true rfl) (Nat.le_of_ble_eq_true rfl) (Nat.le_of_ble_eq_true rfl) dX13_runScript_110 rfl (fun r35 s36 h => ?_)
        exact g_iret B (ty := .int) rfl rfl (Nat.le_of_ble_eq_true rfl) (Nat.le_of_ble_eq_true rfl) dX13_runScript_113 ⟨_, rfl, h⟩
    · replace h := h.2 q
      refine g_aload_n (np := 28) B.1 dX13_runScript_27 rfl rfl ?_
      refine g_aload_n (np := 29) B.1 dX13_runScript_28 rfl rfl ?_
      refine gf_YModel_189_15 (np := 32) B.1 dX13_runScript_29 rfl ?_
      refine gp_YModel_28_15 (np := 35) B.1 dX13_runScript_32 rfl ?_
      refine g_mem (fun s38 es38 => ?_)
      replace h := h s38 es38
      refine g_iconst (np := 36) (v := 0) B.1 dX13_runScript_35 (by decide) rfl ?_
      exact g_iret B (ty := .int) rfl rfl (Nat.le_of_ble_eq_true rfl) (Nat.le_of_ble_eq_true rfl) dX13_runScript_36 ⟨_, rfl, h⟩
