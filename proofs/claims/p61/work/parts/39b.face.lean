def wX12_type  (a1 : Int32) (s0 : Mem) (Q : Int32 → Mem → Prop) (E : String → Mem → Prop) : Prop := ((a1 < 32 → E "java/lang/IllegalArgumentException" s0) ∧ (¬ a1 < 32 → ((a1 ≤ 126 → wX8_isFull   s0 (fun (r1 : Int32) (s2 : Mem) => ((r1 = 0 → wX8_append  a1 s2 (fun (r3 : Int32) (s4 : Mem) => Q r3 s4) E) ∧ (¬ r1 = 0 → E "java/lang/IllegalStateException" s2))) E) ∧ (¬ a1 ≤ 126 → E "java/lang/IllegalArgumentException" s0))))
set_option maxRecDepth 20000 in
set_option maxHeartbeats 4000000 in
theorem oX12_type {l : Launch} {x : Ctx} (hl : l.stackTraces = false)   (a1 : Int32)  (s0 : Mem) (Q : Int32 → Mem → Prop) (E : String → Mem → Prop) (h : wX12_type  a1 s0 Q E) : MetG l x yX12_type cX12_type 2 (some .int) 10 285 1 302 [.ref (xad x 14 0), .int a1] s0 (RI Q) E := by
  refine MetG.of hl (by decide) (Nat.le_of_ble_eq_true rfl) [some (.ref (xad x 14 0)), some (.int a1)] rfl (fun K B hx _ => ?_)
  subst hx
  unfold wX12_type at h
  refine g_iload_n (np := 1) B.1 dX12_type_0 rfl rfl ?_
  refine g_bipush (np := 3) (v := 32) B.1 dX12_type_1 (by decide) rfl ?_
  refine g_icmp_lt (np := 6) (tgt := 12) B.1 dX12_type_3 (by decide) rfl (fun q => ?_) (fun q => ?_)
  · replace h := h.1 q
    exact g_throwW B (text := "the character cannot be typed") rfl (by decide +kernel) (by decide +kernel) b_627 b_48 (by decide +kernel) at_318 at_318g dX12_type_12 dX12_type_15 dX12_type_16 dX12_type_19 dX12_type_22 (by decide) (Nat.le_of_ble_eq_true rfl) (Nat.le_of_ble_eq_true rfl) (Nat.le_of_ble_eq_true rfl) h
  · replace h := h.2 q
    refine g_iload_n (np := 7) B.1 dX12_type_6 rfl rfl ?_
    refine g_bipush (np := 9) (v := 126) B.1 dX12_type_7 (by decide) rfl ?_
    refine g_icmp_le (np := 12) (tgt := 23) B.1 dX12_type_9 (by decide) rfl (fun q => ?_) (fun q => ?_)
    · replace h := h.1 q
      refine g_aload_n (np := 24) B.1 dX12_type_23 rfl rfl ?_
      refine gf_Y_62_14 (np := 27) B.1 dX12_type_24 rfl ?_
      refine gc_Y_319 (np := 30) B   (oX8_isFull B.1.tr     _ _ _ h) (Nat.le_of_ble_eq_true rfl) (Nat.le_of_ble_eq_true rfl) (Nat.le_of_ble_eq_true rfl) (Nat.le_of_ble_eq_true rfl) (Nat.le_of_ble_eq_true rfl) dX12_type_27 rfl (fun r1 s2 h => ?_)
      refine g_if_eq (np := 33) (tgt := 44) B.1 dX12_type_30 (by decide) rfl (fun q => ?_) (fun q => ?_)
      · replace h := h.1 q
        refine g_aload_n (np := 45) B.1 dX12_type_44 rfl rfl ?_
        refine gf_Y_62_14 (np := 48) B.1 dX12_type_45 rfl ?_
        refine g_iload_n (np := 49) B.1 dX12_type_48 rfl rfl ?_
        refine gc_Y_328 (np := 52) B   (oX8_append B.1.tr   a1  _ _ _ h) (Nat.le_of_ble_eq_true rfl) (Nat.le_of_ble_eq_true rfl) (Nat.le_of_ble_eq_true rfl) (Nat.le_of_ble_eq_true rfl) (Nat.le_of_ble_eq_true rfl) dX12_type_49 rfl (fun r3 s4 h => ?_)
        exact g_iret B (ty := .int) rfl rfl (Nat.le_of_ble_eq_true rfl) (Nat.le_of_ble_eq_true rfl) dX12_type_52 ⟨_, rfl, h⟩
      · replace h := h.2 q
        exact g_throwW B (text := "the script buffer is full") rfl (by decide +kernel) (by decide +kernel) b_630 b_49 (by decide +kernel) at_327 at_327g dX12_type_33 dX12_type_36 dX12_type_37 dX12_type_40 dX12_type_43 (by decide) (Nat.le_of_ble_eq_true rfl) (Nat.le_of_ble_eq_true rfl) (Nat.le_of_ble_eq_true rfl) h
    · replace h := h.2 q
      exact g_throwW B (text := "the character cannot be typed") rfl (by decide +kernel) (by decide +kernel) b_627 b_48 (by decide +kernel) at_318 at_318g dX12_type_12 dX12_type_15 dX12_type_16 dX12_type_19 dX12_type_22 (by decide) (Nat.le_of_ble_eq_true rfl) (Nat.le_of_ble_eq_true rfl) (Nat.le_of_ble_eq_true rfl) h
def wX12_runCommands_2   (Q : Int32 → Mem → Prop) (E : String → Mem → Prop)  (X74 : Int32 → Mem → Prop) (X93 : Mem → Prop) : Nat → Int32 → Mem → Prop
  | 0, _, _ => False
  | n2 + 1, v1, s0 => wX8_count   s0 (fun (r1 : Int32) (s2 : Mem) => ((r1 ≤ v1 → X93  s2) ∧ (¬ r1 ≤ v1 → wX8_commandAt  v1 s2 (fun (r3 : Option Nat) (s4 : Mem) => ((r3 = none → wX8_numberAt  v1 0 s4 (fun (r6 : Int32) (s7 : Mem) => wX8_numberAt  v1 1 s7 (fun (r8 : Int32) (s9 : Mem) => wX8_numberAt  v1 2 s9 (fun (r10 : Int32) (s11 : Mem) => X74 v1 s11) E) E) E) ∧ (∀ j5 : Nat, r3 = some j5 → wX8_numberAt  v1 0 s4 (fun (r12 : Int32) (s13 : Mem) => wX8_numberAt  v1 1 s13 (fun (r14 : Int32) (s15 : Mem) => wX8_numberAt  v1 2 s15 (fun (r16 : Int32) (s17 : Mem) => wX12_refusalOf  j5 r12 r14 r16 s17 (fun (r18 : Nat) (s19 : Mem) => ((r18 = 0 → wX12_carryOut  j5 r12 r14 r16 s19 (fun (r20 : Int32) (s21 : Mem) => ∀ v1_22 : Int32, v1_22 = (v1 + 1) → wX12_runCommands_2   Q E X74 X93 n2 v1_22 s21) E) ∧ (¬ r18 = 0 → X74 v1 s19))) E) E) E) E))) E))) E
def wX12_runCommands   (s0 : Mem) (Q : Int32 → Mem → Prop) (E : String → Mem → Prop) : Prop := ∃ m26 : Nat, wX12_runCommands_2   Q E (fun (x1_23 : Int32) (s24 : Mem) => Q x1_23 s24) (fun (s25 : Mem) => Q ((-1)) s25) m26 0  s0
set_option maxRecDepth 20000 in
set_option maxHeartbeats 4000000 in
theorem oX12_runCommands_2 {K : Fr} {Q : Int32 → Mem → Prop} {E : String → Mem → Prop} (B : Bd K cX12_runCommands "YarnMill" 6 (some .int) 5 121 0 0 (RI Q) E)    {X74 : Int32 → Mem → Prop} {X93 : Mem → Prop} {cells slots : Nat} (hX74 : ∀ (y1 : Int32) (τ : Mem), X74 y1 τ → Go K cells slots τ 74 [none, some (.int y1), none, none, none, none] ([])) (hX93 : ∀ (τ : Mem), X93  τ → Go K cells slots τ 93 [none, none, none, none, none, none] ([])) (hc : cells ≤ 0) (hs : slots ≤ 0) : ∀ (n : Nat) (v1 : Int32) (s0 : Mem), wX12_runCommands_2   Q E X74 X93 n v1 s0 → Go K cells slots s0 2 [some (.ref (xad (fX K) 14 0)), some (.int v1), none, none, none, none] ([]) := by
  intro n
  induction n with
  | zero => intro v1 s0 h; exact absurd h (by simp [wX12_runCommands_2])
  | succ n ih =>
    intro v1 s0 h
    simp only [wX12_runCommands_2] at h
    refine g_iload_n (np := 3) B.1 dX12_runCommands_2 rfl rfl ?_
    refine g_aload_n (np := 4) B.1 dX12_runCommands_3 rfl rfl ?_
    refine gf_Y_62_14 (np := 7) B.1 dX12_runCommands_4 rfl ?_
    refine gc_Y_351 (np := 10) B   (oX8_count B.1.tr     _ _ _ h) (Nat.le_of_ble_eq_true rfl) (Nat.le_of_ble_eq_true rfl) (Nat.le_of_ble_eq_true rfl) hc hs dX12_runCommands_7 rfl (fun r1 s2 h => ?_)
    refine g_icmp_ge (np := 13) (tgt := 93) B.1 dX12_runCommands_10 (by decide) rfl (fun q => ?_) (fun q => ?_)
    · replace h := h.1 q
      refine Go.lle [none, none, none, none, none, none] (by simp [lle]) ?_
      exact hX93  s2 h
    · replace h := h.2 q
      refine g_aload_n (np := 14) B.1 dX12_runCommands_13 rfl rfl ?_
      refine gf_Y_62_14 (np := 17) B.1 dX12_runCommands_14 rfl ?_
      refine g_iload_n (np := 18) B.1 dX12_runCommands_17 rfl rfl ?_
      refine gc_Y_474 (np := 21) B   (oX8_commandAt B.1.tr   v1  _ _ _ h) (Nat.le_of_ble_eq_true rfl) (Nat.le_of_ble_eq_true rfl) (Nat.le_of_ble_eq_true rfl) hc hs dX12_runCommands_18 rfl (fun r3 hr3 s4 h => ?_)
      rcases r3 with _ | j5
      · replace h := h.1 rfl
        refine Go.eq rfl rfl rfl (st' := .null :: []) rfl ?_
        refine g_astore_nN (np := 22) (lv' := [some (.ref (xad (fX K) 14 0)), some (.int v1), some (.null), none, none, none]) B.1 dX12_runCommands_21 (by decide) rfl rfl rfl ?_
        refine g_aload_n (np := 23) B.1 dX12_runCommands_22 rfl rfl ?_
        refine gf_Y_62_14 (np := 26) B.1 dX12_runCommands_23 rfl ?_
        refine g_iload_n (np := 27) B.1 dX12_runCommands_26 rfl rfl ?_
        refine g_iconst (np := 28) (v := 0) B.1 dX12_runCommands_27 (by decide) rfl ?_
        refine gc_Y_478 (np := 31) B   (oX8_numberAt B.1.tr   v1 0  _ _ _ h) (Nat.le_of_ble_eq_true rfl) (Nat.le_of_ble_eq_true rfl) (Nat.le_of_ble_eq_true rfl) hc hs dX12_runCommands_28 rfl (fun r6 s7 h => ?_)
        refine g_istore_n (np := 32) (lv' := [some (.ref (xad (fX K) 14 0)), some (.int v1), some (.null), some (.int r6), none, none]) B.1 dX12_runCommands_31 (by decide) rfl rfl rfl ?_
        refine g_aload_n (np := 33) B.1 dX12_runCommands_32 rfl rfl ?_
        refine gf_Y_62_14 (np := 36) B.1 dX12_runCommands_33 rfl ?_
        refine g_iload_n (np := 37) B.1 dX12_runCommands_36 rfl rfl ?_
        refine g_iconst (np := 38) (v := 1) B.1 dX12_runCommands_37 (by decide) rfl ?_
        refine gc_Y_478 (np := 41) B   (oX8_numberAt B.1.tr   v1 1  _ _ _ h) (Nat.le_of_ble_eq_true rfl) (Nat.le_of_ble_eq_true rfl) (Nat.le_of_ble_eq_true rfl) hc hs dX12_runCommands_38 rfl (fun r8 s9 h => ?_)
        refine g_istore (np := 43) (lv' := [some (.ref (xad (fX K) 14 0)), some (.int v1), some (.null), some (.int r6), some (.int r8), none]) B.1 dX12_runCommands_41 (by decide) rfl rfl rfl ?_
        refine g_aload_n (np := 44) B.1 dX12_runCommands_43 rfl rfl ?_
        refine gf_Y_62_14 (np := 47) B.1 dX12_runCommands_44 rfl ?_
        refine g_iload_n (np := 48) B.1 dX12_runCommands_47 rfl rfl ?_
        refine g_iconst (np := 49) (v := 2) B.1 dX12_runCommands_48 (by decide) rfl ?_
        refine gc_Y_478 (np := 52) B   (oX8_numberAt B.1.tr   v1 2  _ _ _ h) (Nat.le_of_ble_eq_true rfl) (Nat.le_of_ble_eq_true rfl) (Nat.le_of_ble_eq_true rfl) hc hs dX12_runCommands_49 rfl (fun r10 s11 h => ?_)
        refine g_istore (np := 54) (lv' := [some (.ref (xad (fX K) 14 0)), some (.int v1), some (.null), some (.int r6), some (.int r8), some (.int r10)]) B.1 dX12_runCommands_52 (by decide) rfl rfl rfl ?_
        refine g_aload_nN (np := 55) B.1 dX12_runCommands_54 rfl rfl ?_
        refine g_ifnullN (tgt := 74) B.1 dX12_runCommands_55 (by decide) ?_
        refine Go.lle [none, some (.int v1), none, none, none, none] (by simp [lle]) ?_
        exact hX74 v1 s11 h
      · replace h := h.2 j5 rfl
        have hj5 : j5 < 9 := hr3 j5 rfl
        refine Go.eq rfl rfl rfl (st' := .ref (xen (fX K) 0 j5) :: []) rfl ?_
        refine g_astore_n (np := 22) (lv' := [some (.ref (xad (fX K) 14 0)), some (.int v1), some (.ref (xen (fX K) 0 j5)), none, none, none]) B.1 dX12_runCommands_21 (by decide) rfl rfl rfl ?_
        refine g_aload_n (np := 23) B.1 dX12_runCommands_22 rfl rfl ?_
        refine gf_Y_62_14 (np := 26) B.1 dX12_runCommands_23 rfl ?_
        refine g_iload_n (np := 27) B.1 dX12_runCommands_26 rfl rfl ?_
        refine g_iconst (np := 28) (v := 0) B.1 dX12_runCommands_27 (by decide) rfl ?_
        refine gc_Y_478 (np := 31) B   (oX8_numberAt B.1.tr   v1 0  _ _ _ h) (Nat.le_of_ble_eq_true rfl) (Nat.le_of_ble_eq_true rfl) (Nat.le_of_ble_eq_true rfl) hc hs dX12_runCommands_28 rfl (fun r12 s13 h => ?_)
        refine g_istore_n (np := 32) (lv' := [some (.ref (xad (fX K) 14 0)), some (.int v1), some (.ref (xen (fX K) 0 j5)), some (.int r12), none, none]) B.1 dX12_runCommands_31 (by decide) rfl rfl rfl ?_
        refine g_aload_n (np := 33) B.1 dX12_runCommands_32 rfl rfl ?_
        refine gf_Y_62_14 (np := 36) B.1 dX12_runCommands_33 rfl ?_
        refine g_iload_n (np := 37) B.1 dX12_runCommands_36 rfl rfl ?_
        refine g_iconst (np := 38) (v := 1) B.1 dX12_runCommands_37 (by decide) rfl ?_
        refine gc_Y_478 (np := 41) B   (oX8_numberAt B.1.tr   v1 1  _ _ _ h) (Nat.le_of_ble_eq_true rfl) (Nat.le_of_ble_eq_true rfl) (Nat.le_of_ble_eq_true rfl) hc hs dX12_runCommands_38 rfl (fun r14 s15 h => ?_)
        refine g_istore (np := 43) (lv' := [some (.ref (xad (fX K) 14 0)), some (.int v1), some (.ref (xen (fX K) 0 j5)), some (.int r12), some (.int r14), none]) B.1 dX12_runCommands_41 (by decide) rfl rfl rfl ?_
        refine g_aload_n (np := 44) B.1 dX12_runCommands_43 rfl rfl ?_
        refine gf_Y_62_14 (np := 47) B.1 dX12_runCommands_44 rfl ?_
        refine g_iload_n (np := 48) B.1 dX12_runCommands_47 rfl rfl ?_
        refine g_iconst (np := 49) (v := 2) B.1 dX12_runCommands_48 (by decide) rfl ?_
        refine gc_Y_478 (np := 52) B   (oX8_numberAt B.1.tr   v1 2  _ _ _ h) (Nat.le_of_ble_eq_true rfl) (Nat.le_of_ble_eq_true rfl) (Nat.le_of_ble_eq_true rfl) hc hs dX12_runCommands_49 rfl (fun r16 s17 h => ?_)
        refine g_istore (np := 54) (lv' := [some (.ref (xad (fX K) 14 0)), some (.int v1), some (.ref (xen (fX K) 0 j5)), some (.int r12), some (.int r14), some (.int r16)]) B.1 dX12_runCommands_52 (by decide) rfl rfl rfl ?_
        refine g_aload_n (np := 55) B.1 dX12_runCommands_54 rfl rfl ?_
        refine g_ifnull (np := 58) B.1 dX12_runCommands_55 rfl ?_
        refine g_aload_n (np := 59) B.1 dX12_runCommands_58 rfl rfl ?_
        refine g_aload_n (np := 60) B.1 dX12_runCommands_59 rfl rfl ?_
        refine g_iload_n (np := 61) B.1 dX12_runCommands_60 rfl rfl ?_
        refine g_iload (np := 63) B.1 dX12_runCommands_61 rfl rfl ?_
        refine g_iload (np := 65) B.1 dX12_runCommands_63 rfl rfl ?_
        refine gc_Y_373 (np := 68) B   (oX12_refusalOf B.1.tr   j5 r12 r14 r16 hj5 _ _ _ h) (Nat.le_of_ble_eq_true rfl) (Nat.le_of_ble_eq_true rfl) (Nat.le_of_ble_eq_true rfl) hc hs dX12_runCommands_65 rfl (fun r18 hr18 s19 h => ?_)
        refine g_getRef (np := 71) B.1 0 (by decide) b_581 dX12_runCommands_68 rfl ?_
        refine g_acmpE_eq (np := 74) (tgt := 76) B.1 hr18 (by decide) dX12_runCommands_71 (by decide) rfl (fun q => ?_) (fun q => ?_)
        · replace h := h.1 q
          refine g_aload_n (np := 77) B.1 dX12_runCommands_76 rfl rfl ?_
          refine g_aload_n (np := 78) B.1 dX12_runCommands_77 rfl rfl ?_
          refine g_iload_n (np := 79) B.1 dX12_runCommands_78 rfl rfl ?_
          refine g_iload (np := 81) B.1 dX12_runCommands_79 rfl rfl ?_
          refine g_iload (np := 83) B.1 dX12_runCommands_81 rfl rfl ?_
          refine gc_Y_381 (np := 86) B   (oX12_carryOut B.1.tr   j5 r12 r14 r16 hj5 _ _ _ h) (Nat.le_of_ble_eq_true rfl) (Nat.le_of_ble_eq_true rfl) (Nat.le_of_ble_eq_true rfl) hc hs dX12_runCommands_83 rfl (fun r20 s21 h => ?_)
          refine g_pop (np := 87) B.1 dX12_runCommands_86 rfl rfl ?_
          obtain ⟨v1_22, ev1_22⟩ : ∃ y : Int32, y = v1 + 1 := ⟨_, rfl⟩
          replace h := h v1_22 ev1_22
          refine g_iinc (np := 90) (v := v1_22) (lv' := [some (.ref (xad (fX K) 14 0)), some (.int v1_22), some (.ref (xen (fX K) 0 j5)), some (.int r12), some (.int r14), some (.int r16)]) B.1 dX12_runCommands_87 rfl (by rw [ev1_22]; rfl) (by decide) rfl rfl rfl ?_
          refine g_goto (tgt := 2) B.1 dX12_runCommands_90 (by decide) ?_
          refine Go.lle [some (.ref (xad (fX K) 14 0)), some (.int v1_22), none, none, none, none] (by simp [lle]) ?_
          exact ih v1_22 s21 h
        · replace h := h.2 q
          refine Go.lle [none, some (.int v1), none, none, none, none] (by simp [lle]) ?_
          exact hX74 v1 s19 h
set_option maxRecDepth 20000 in
set_option maxHeartbeats 4000000 in
theorem oX12_runCommands {l : Launch} {x : Ctx} (hl : l.stackTraces = false)     (s0 : Mem) (Q : Int32 → Mem → Prop) (E : String → Mem → Prop) (h : wX12_runCommands   s0 Q E) : MetG l x yX12_runCommands cX12_runCommands 6 (some .int) 5 121 0 0 [.ref (xad x 14 0)] s0 (RI Q) E := by
  refine MetG.of hl (by decide) (Nat.le_of_ble_eq_true rfl) [some (.ref (xad x 14 0)), none, none, none, none, none] rfl (fun K B hx _ => ?_)
  subst hx
  unfold wX12_runCommands at h
  refine g_iconst (np := 1) (v := 0) B.1 dX12_runCommands_0 (by decide) rfl ?_
  refine g_istore_n (np := 2) (lv' := [some (.ref (xad (fX K) 14 0)), some (.int 0), none, none, none, none]) B.1 dX12_runCommands_1 (by decide) rfl rfl rfl ?_
  obtain ⟨m26, h⟩ := h
  refine Go.lle [some (.ref (xad (fX K) 14 0)), some (.int 0), none, none, none, none] (by simp [lle]) ?_
  refine oX12_runCommands_2 B    (fun x1_23 s24 h => ?_) (fun s25 h => ?_) (Nat.le_of_ble_eq_true rfl) (Nat.le_of_ble_eq_true rfl) m26 0  s0 h
  · refine g_iload_n (np := 75) B.1 dX12_runCommands_74 rfl rfl ?_
    exact g_iret B (ty := .int) rfl rfl (Nat.le_of_ble_eq_true rfl) (Nat.le_of_ble_eq_true rfl) dX12_runCommands_75 ⟨_, rfl, h⟩
  · refine g_iconst (np := 94) (v := (-1)) B.1 dX12_runCommands_93 (by decide) rfl ?_
    exact g_iret B (ty := .int) rfl rfl (Nat.le_of_ble_eq_true rfl) (Nat.le_of_ble_eq_true rfl) dX12_runCommands_94 ⟨_, rfl, h⟩
def wX12_runScript   (s0 : Mem) (Q : Int32 → Mem → Prop) (E : String → Mem → Prop) : Prop := wX8_readForm   s0 (fun (r1 : Int32) (s2 : Mem) => wX8_empty   s2 (fun (s4 : Mem) => ((r1 = (-1) → wX10_copyFrom 1 0  s4 (fun (s6 : Mem) => wX12_runCommands   s6 (fun (r7 : Int32) (s8 : Mem) => ((r7 = (-1) → wX4_record 1  s8 (fun (s10 : Mem) => wX8_count   s10 (fun (r11 : Int32) (s12 : Mem) => Q r11 s12) E) E) ∧ (¬ r7 = (-1) → wX10_copyFrom 0 1  s8 (fun (s14 : Mem) => ∀ s15 : Mem, s15 = wr s14 14 0 12 r7 → E "java/lang/IllegalStateException" s15) E))) E) E) ∧ (¬ r1 = (-1) → ∀ s16 : Mem, s16 = wr s4 14 0 11 r1 → E "java/lang/IllegalArgumentException" s16))) E) E
set_option maxRecDepth 20000 in
set_option maxHeartbeats 4000000 in
theorem oX12_runScript {l : Launch} {x : Ctx} (hl : l.stackTraces = false)     (s0 : Mem) (Q : Int32 → Mem → Prop) (E : String → Mem → Prop) (h : wX12_runScript   s0 Q E) : MetG l x yX12_runScript cX12_runScript 3 (some .int) 10 284 2 308 [.ref (xad x 14 0)] s0 (RI Q) E := by
  refine MetG.of hl (by decide) (Nat.le_of_ble_eq_true rfl) [some (.ref (xad x 14 0)), none, none] rfl (fun K B hx _ => ?_)
  subst hx
  unfold wX12_runScript at h
  refine g_aload_n (np := 1) B.1 dX12_runScript_0 rfl rfl ?_
  refine gf_Y_62_14 (np := 4) B.1 dX12_runScript_1 rfl ?_
  refine gc_Y_331 (np := 7) B   (oX8_readForm B.1.tr     _ _ _ h) (Nat.le_of_ble_eq_true rfl) (Nat.le_of_ble_eq_true rfl) (Nat.le_of_ble_eq_true rfl) (Nat.le_of_ble_eq_true rfl) (Nat.le_of_ble_eq_true rfl) dX12_runScript_4 rfl (fun r1 s2 h => ?_)
  refine g_istore_n (np := 8) (lv' := [some (.ref (xad (fX K) 14 0)), some (.int r1), none]) B.1 dX12_runScript_7 (by decide) rfl rfl rfl ?_
  refine g_aload_n (np := 9) B.1 dX12_runScript_8 rfl rfl ?_
  refine gf_Y_62_14 (np := 12) B.1 dX12_runScript_9 rfl ?_
  refine gc_Y_334 (np := 15) B   (oX8_empty B.1.tr     _ _ _ h) (Nat.le_of_ble_eq_true rfl) (Nat.le_of_ble_eq_true rfl) (Nat.le_of_ble_eq_true rfl) (Nat.le_of_ble_eq_true rfl) (Nat.le_of_ble_eq_true rfl) dX12_runScript_12 rfl (fun s4 h => ?_)
  refine g_iload_n (np := 16) B.1 dX12_runScript_15 rfl rfl ?_
  refine g_iconst (np := 17) (v := (-1)) B.1 dX12_runScript_16 (by decide) rfl ?_
  refine g_icmp_eq (np := 20) (tgt := 36) B.1 dX12_runScript_17 (by decide) rfl (fun q => ?_) (fun q => ?_)
  · replace h := h.1 q
    refine g_aload_n (np := 37) B.1 dX12_runScript_36 rfl rfl ?_
    refine gf_Y_16_14 (np := 40) B.1 dX12_runScript_37 rfl ?_
    refine g_aload_n (np := 41) B.1 dX12_runScript_40 rfl rfl ?_
    refine gf_Y_10_14 (np := 44) B.1 dX12_runScript_41 rfl ?_
    refine gc_Y_339 (np := 47) B 1 0 (by decide : (1 : Nat) < 11) (by decide : (0 : Nat) < 11) (oX10_copyFrom B.1.tr 1 0 (by decide : (1 : Nat) < 11) (by decide : (0 : Nat) < 11)   _ _ _ h) (Nat.le_of_ble_eq_true rfl) (Nat.le_of_ble_eq_true rfl) (Nat.le_of_ble_eq_true rfl) (Nat.le_of_ble_eq_true rfl) (Nat.le_of_ble_eq_true rfl) dX12_runScript_44 rfl (fun s6 h => ?_)
    refine g_aload_n (np := 48) B.1 dX12_runScript_47 rfl rfl ?_
    refine gc_Y_343 (np := 51) B   (oX12_runCommands B.1.tr     _ _ _ h) (Nat.le_of_ble_eq_true rfl) (Nat.le_of_ble_eq_true rfl) (Nat.le_of_ble_eq_true rfl) (Nat.le_of_ble_eq_true rfl) (Nat.le_of_ble_eq_true rfl) dX12_runScript_48 rfl (fun r7 s8 h => ?_)
    refine g_istore_n (np := 52) (lv' := [some (.ref (xad (fX K) 14 0)), some (.int r1), some (.int r7)]) B.1 dX12_runScript_51 (by decide) rfl rfl rfl ?_
    refine g_iload_n (np := 53) B.1 dX12_runScript_52 rfl rfl ?_
    refine g_iconst (np := 54) (v := (-1)) B.1 dX12_runScript_53 (by decide) rfl ?_
    refine g_icmp_eq (np := 57) (tgt := 84) B.1 dX12_runScript_54 (by decide) rfl (fun q => ?_) (fun q => ?_)
    · replace h := h.1 q
      refine g_aload_n (np := 85) B.1 dX12_runScript_84 rfl rfl ?_
      refine gf_Y_25_14 (np := 88) B.1 dX12_runScript_85 rfl ?_
      refine g_aload_n (np := 89) B.1 dX12_runScript_88 rfl rfl ?_
      refine gf_Y_16_14 (np := 92) B.1 dX12_runScript_89 rfl ?_
      refine gc_Y_348 (np := 95) B 1 (by decide : (1 : Nat) < 11) (oX4_record B.1.tr 1 (by decide : (1 : Nat) < 11)   _ _ _ h) (Nat.le_of_ble_eq_true rfl) (Nat.le_of_ble_eq_true rfl) (Nat.le_of_ble_eq_true rfl) (Nat.le_of_ble_eq_true rfl) (Nat.le_of_ble_eq_true rfl) dX12_runScript_92 rfl (fun s10 h => ?_)
      refine g_aload_n (np := 96) B.1 dX12_runScript_95 rfl rfl ?_
      refine gf_Y_62_14 (np := 99) B.1 dX12_runScript_96 rfl ?_
      refine gc_Y_351 (np := 102) B   (oX8_count B.1.tr     _ _ _ h) (Nat.le_of_ble_eq_true rfl) (Nat.le_of_ble_eq_true rfl) (Nat.le_of_ble_eq_true rfl) (Nat.le_of_ble_eq_true rfl) (Nat.le_of_ble_eq_true rfl) dX12_runScript_99 rfl (fun r11 s12 h => ?_)
      exact g_iret B (ty := .int) rfl rfl (Nat.le_of_ble_eq_true rfl) (Nat.le_of_ble_eq_true rfl) dX12_runScript_102 ⟨_, rfl, h⟩
    · replace h := h.2 q
      refine g_aload_n (np := 58) B.1 dX12_runScript_57 rfl rfl ?_
      refine gf_Y_10_14 (np := 61) B.1 dX12_runScript_58 rfl ?_
      refine g_aload_n (np := 62) B.1 dX12_runScript_61 rfl rfl ?_
      refine gf_Y_16_14 (np := 65) B.1 dX12_runScript_62 rfl ?_
      refine gc_Y_339 (np := 68) B 0 1 (by decide : (0 : Nat) < 11) (by decide : (1 : Nat) < 11) (oX10_copyFrom B.1.tr 0 1 (by decide : (0 : Nat) < 11) (by decide : (1 : Nat) < 11)   _ _ _ h) (Nat.le_of_ble_eq_true rfl) (Nat.le_of_ble_eq_true rfl) (Nat.le_of_ble_eq_true rfl) (Nat.le_of_ble_eq_true rfl) (Nat.le_of_ble_eq_true rfl) dX12_runScript_65 rfl (fun s14 h => ?_)
      refine g_aload_n (np := 69) B.1 dX12_runScript_68 rfl rfl ?_
      refine g_iload_n (np := 70) B.1 dX12_runScript_69 rfl rfl ?_
      refine gp_Y_77_14 (np := 73) B.1 dX12_runScript_70 rfl ?_
      refine g_mem (fun s15 es15 => ?_)
      replace h := h s15 es15
      exact g_throwW B (text := "a command of the script failed") rfl (by decide +kernel) (by decide +kernel) b_630 b_49 (by decide +kernel) at_327 at_327g dX12_runScript_73 dX12_runScript_76 dX12_runScript_77 dX12_runScript_80 dX12_runScript_83 (by decide) (Nat.le_of_ble_eq_true rfl) (Nat.le_of_ble_eq_true rfl) (Nat.le_of_ble_eq_true rfl) h
  · replace h := h.2 q
    refine g_aload_n (np := 21) B.1 dX12_runScript_20 rfl rfl ?_
    refine g_iload_n (np := 22) B.1 dX12_runScript_21 rfl rfl ?_
    refine gp_Y_73_14 (np := 25) B.1 dX12_runScript_22 rfl ?_
    refine g_mem (fun s16 es16 => ?_)
    replace h := h s16 es16
    exact g_throwW B (text := "the script does not have the required form") rfl (by decide +kernel) (by decide +kernel) b_627 b_48 (by decide +kernel) at_318 at_318g dX12_runScript_25 dX12_runScript_28 dX12_runScript_29 dX12_runScript_32 dX12_runScript_35 (by decide) (Nat.le_of_ble_eq_true rfl) (Nat.le_of_ble_eq_true rfl) (Nat.le_of_ble_eq_true rfl) h
def wX12_renderShelf_10   (Q : Int32 → Mem → Prop) (E : String → Mem → Prop)  (X63 : Mem → Prop) : Nat → Int32 → Mem → Prop
  | 0, _, _ => False
  | n10 + 1, v1, s0 => wX7_size 9  s0 (fun (r3 : Int32) (s4 : Mem) => ((r3 ≤ v1 → X63  s4) ∧ (¬ r3 ≤ v1 → ((v1 ≤ 0 → wX7_get 9 v1 s4 (fun (r5 : Int32) (s6 : Mem) => wJ4_append_bf812 1 r5 s6 (fun (s8 : Mem) => ∀ v1_9 : Int32, v1_9 = (v1 + 1) → wX12_renderShelf_10   Q E X63 n10 v1_9 s8) E) E) ∧ (¬ v1 ≤ 0 → wJ4_append_cf468 1 45 s4 (fun (s11 : Mem) => wX7_get 9 v1 s11 (fun (r12 : Int32) (s13 : Mem) => wJ4_append_bf812 1 r12 s13 (fun (s15 : Mem) => ∀ v1_16 : Int32, v1_16 = (v1 + 1) → wX12_renderShelf_10   Q E X63 n10 v1_16 s15) E) E) E))))) E
def wX12_renderShelf   (s0 : Mem) (Q : Int32 → Mem → Prop) (E : String → Mem → Prop) : Prop := wJ4_setLength_d00df 1 0 s0 (fun (s2 : Mem) => ∃ m20 : Nat, m20 ≤ 13 ∧ wX12_renderShelf_10   Q E (fun (s17 : Mem) => wJ4_length_8abf5 1  s17 (fun (r18 : Int32) (s19 : Mem) => s19 = s17 ∧ Q r18 s17) E) m20 0  s2) E
set_option maxRecDepth 20000 in
set_option maxHeartbeats 4000000 in
theorem oX12_renderShelf_10 {K : Fr} {Q : Int32 → Mem → Prop} {E : String → Mem → Prop} (B : Bd K cX12_renderShelf "YarnMill" 2 (some .int) 9 266 27 8154 (RI Q) E)    {X63 : Mem → Prop} {CM SM : Nat} (hX63 : ∀ (τ : Mem), X63  τ → Go K CM SM τ 63 [some (.ref (xad (fX K) 14 0)), none] ([])) (hCM : CM ≤ 27) (hSM : SM ≤ 8154) : ∀ (n : Nat) {cells slots : Nat} (hc : cells + n * 2 ≤ CM) (hs : slots + n * 604 ≤ SM) (v1 : Int32) (s0 : Mem), wX12_renderShelf_10   Q E X63 n v1 s0 → Go K cells slots s0 10 [some (.ref (xad (fX K) 14 0)), some (.int v1)] ([]) := by
  intro n
  induction n with
  | zero => intro cells slots hc hs v1 s0 h; exact absurd h (by simp [wX12_renderShelf_10])
  | succ n ih =>
    intro cells slots hc hs v1 s0 h
    simp only [wX12_renderShelf_10] at h
    refine g_iload_n (np := 11) B.1 dX12_renderShelf_10 rfl rfl ?_
    refine g_aload_n (np := 12) B.1 dX12_renderShelf_11 rfl rfl ?_
    refine gf_Y_10_14 (np := 15) B.1 dX12_renderShelf_12 rfl ?_
    refine gf_Y_229_4 (np := 18) B.1 0 (by decide : (0 : Nat) < 11) dX12_renderShelf_15 rfl ?_
    refine gc_Y_123 (np := 21) B 9 (by decide : (9 : Nat) < 112) (oX7_size B.1.tr 9 (by decide : (9 : Nat) < 112)   _ _ _ h) (Nat.le_of_ble_eq_true rfl) (Nat.le_of_ble_eq_true rfl) (Nat.le_of_ble_eq_true rfl) (by omega) (by omega) dX12_renderShelf_18 rfl (fun r3 s4 h => ?_)
    refine g_icmp_ge (np := 24) (tgt := 63) B.1 dX12_renderShelf_21 (by decide) rfl (fun q => ?_) (fun q => ?_)
    · replace h := h.1 q
      refine Go.lle [some (.ref (xad (fX K) 14 0)), none] (by simp [lle]) ?_
      exact Go.widen (by omega) (by omega) (hX63  s4 h)
    · replace h := h.2 q
      refine g_iload_n (np := 25) B.1 dX12_renderShelf_24 rfl rfl ?_
      refine g_if_le (np := 28) (tgt := 38) B.1 dX12_renderShelf_25 (by decide) rfl (fun q => ?_) (fun q => ?_)
      · replace h := h.1 q
        refine g_aload_n (np := 39) B.1 dX12_renderShelf_38 rfl rfl ?_
        refine gf_Y_69_14 (np := 42) B.1 dX12_renderShelf_39 rfl ?_
        refine g_aload_n (np := 43) B.1 dX12_renderShelf_42 rfl rfl ?_
        refine gf_Y_10_14 (np := 46) B.1 dX12_renderShelf_43 rfl ?_
        refine gf_Y_229_4 (np := 49) B.1 0 (by decide : (0 : Nat) < 11) dX12_renderShelf_46 rfl ?_
        refine g_iload_n (np := 50) B.1 dX12_renderShelf_49 rfl rfl ?_
        refine gc_Y_138 (np := 53) B 9 (by decide : (9 : Nat) < 112) (oX7_get B.1.tr 9 (by decide : (9 : Nat) < 112) v1  _ _ _ h) (Nat.le_of_ble_eq_true rfl) (Nat.le_of_ble_eq_true rfl) (Nat.le_of_ble_eq_true rfl) (by omega) (by omega) dX12_renderShelf_50 rfl (fun r5 s6 h => ?_)
        refine gc_Y_294 (np := 56) B 1 (cb (by decide : (1 : Nat) < 2)) (oJ4_append_bf812 B.1.tr 1 (cb (by decide : (1 : Nat) < 2)) r5  _ _ _ h) (Nat.le_of_ble_eq_true rfl) (Nat.le_of_ble_eq_true rfl) (Nat.le_of_ble_eq_true rfl) (by omega) (by omega) dX12_renderShelf_53 rfl (fun s8 h => ?_)
        refine g_pop (np := 57) B.1 dX12_renderShelf_56 rfl rfl ?_
        obtain ⟨v1_9, ev1_9⟩ : ∃ y : Int32, y = v1 + 1 := ⟨_, rfl⟩
        replace h := h v1_9 ev1_9
        refine g_iinc (np := 60) (v := v1_9) (lv' := [some (.ref (xad (fX K) 14 0)), some (.int v1_9)]) B.1 dX12_renderShelf_57 rfl (by rw [ev1_9]; rfl) (by decide) rfl rfl rfl ?_
        refine g_goto (tgt := 10) B.1 dX12_renderShelf_60 (by decide) ?_
        refine Go.lle [some (.ref (xad (fX K) 14 0)), some (.int v1_9)] (by simp [lle]) ?_
        exact ih (by omega) (by omega) v1_9 s8 h
      · replace h := h.2 q
        refine g_aload_n (np := 29) B.1 dX12_renderShelf_28 rfl rfl ?_
        refine gf_Y_69_14 (np := 32) B.1 dX12_renderShelf_29 rfl ?_
        refine g_bipush (np := 34) (v := 45) B.1 dX12_renderShelf_32 (by decide) rfl ?_
        refine gc_Y_290 (np := 37) B 1 (cb (by decide : (1 : Nat) < 2)) (oJ4_append_cf468 B.1.tr 1 (cb (by decide : (1 : Nat) < 2)) 45  _ _ _ h) (Nat.le_of_ble_eq_true rfl) (Nat.le_of_ble_eq_true rfl) (Nat.le_of_ble_eq_true rfl) (by omega) (by omega) dX12_renderShelf_34 rfl (fun s11 h => ?_)
        refine g_pop (np := 38) B.1 dX12_renderShelf_37 rfl rfl ?_
        refine g_aload_n (np := 39) B.1 dX12_renderShelf_38 rfl rfl ?_
        refine gf_Y_69_14 (np := 42) B.1 dX12_renderShelf_39 rfl ?_
        refine g_aload_n (np := 43) B.1 dX12_renderShelf_42 rfl rfl ?_
        refine gf_Y_10_14 (np := 46) B.1 dX12_renderShelf_43 rfl ?_
        refine gf_Y_229_4 (np := 49) B.1 0 (by decide : (0 : Nat) < 11) dX12_renderShelf_46 rfl ?_
        refine g_iload_n (np := 50) B.1 dX12_renderShelf_49 rfl rfl ?_
        refine gc_Y_138 (np := 53) B 9 (by decide : (9 : Nat) < 112) (oX7_get B.1.tr 9 (by decide : (9 : Nat) < 112) v1  _ _ _ h) (Nat.le_of_ble_eq_true rfl) (Nat.le_of_ble_eq_true rfl) (Nat.le_of_ble_eq_true rfl) (by omega) (by omega) dX12_renderShelf_50 rfl (fun r12 s13 h => ?_)
        refine gc_Y_294 (np := 56) B 1 (cb (by decide : (1 : Nat) < 2)) (oJ4_append_bf812 B.1.tr 1 (cb (by decide : (1 : Nat) < 2)) r12  _ _ _ h) (Nat.le_of_ble_eq_true rfl) (Nat.le_of_ble_eq_true rfl) (Nat.le_of_ble_eq_true rfl) (by omega) (by omega) dX12_renderShelf_53 rfl (fun s15 h => ?_)
        refine g_pop (np := 57) B.1 dX12_renderShelf_56 rfl rfl ?_
        obtain ⟨v1_16, ev1_16⟩ : ∃ y : Int32, y = v1 + 1 := ⟨_, rfl⟩
        replace h := h v1_16 ev1_16
        refine g_iinc (np := 60) (v := v1_16) (lv' := [some (.ref (xad (fX K) 14 0)), some (.int v1_16)]) B.1 dX12_renderShelf_57 rfl (by rw [ev1_16]; rfl) (by decide) rfl rfl rfl ?_
        refine g_goto (tgt := 10) B.1 dX12_renderShelf_60 (by decide) ?_
        refine Go.lle [some (.ref (xad (fX K) 14 0)), some (.int v1_16)] (by simp [lle]) ?_
        exact ih (by omega) (by omega) v1_16 s15 h
set_option maxRecDepth 20000 in
set_option maxHeartbeats 4000000 in
theorem oX12_renderShelf {l : Launch} {x : Ctx} (hl : l.stackTraces = false)     (s0 : Mem) (Q : Int32 → Mem → Prop) (E : String → Mem → Prop) (h : wX12_renderShelf   s0 Q E) : MetG l x yX12_renderShelf cX12_renderShelf 2 (some .int) 9 266 27 8154 [.ref (xad x 14 0)] s0 (RI Q) E := by
  refine MetG.of hl (by decide) (Nat.le_of_ble_eq_true rfl) [some (.ref (xad x 14 0)), none] rfl (fun K B hx _ => ?_)
  subst hx
  unfold wX12_renderShelf at h
  refine g_aload_n (np := 1) B.1 dX12_renderShelf_0 rfl rfl ?_
  refine gf_Y_69_14 (np := 4) B.1 dX12_renderShelf_1 rfl ?_
  refine g_iconst (np := 5) (v := 0) B.1 dX12_renderShelf_4 (by decide) rfl ?_
  refine gc_Y_287 (np := 8) B 1 (cb (by decide : (1 : Nat) < 2)) (oJ4_setLength_d00df B.1.tr 1 (cb (by decide : (1 : Nat) < 2)) 0  _ _ _ h) (Nat.le_of_ble_eq_true rfl) (Nat.le_of_ble_eq_true rfl) (Nat.le_of_ble_eq_true rfl) (Nat.le_of_ble_eq_true rfl) (Nat.le_of_ble_eq_true rfl) dX12_renderShelf_5 rfl (fun s2 h => ?_)
  refine g_iconst (np := 9) (v := 0) B.1 dX12_renderShelf_8 (by decide) rfl ?_
  refine g_istore_n (np := 10) (lv' := [some (.ref (xad (fX K) 14 0)), some (.int 0)]) B.1 dX12_renderShelf_9 (by decide) rfl rfl rfl ?_
  obtain ⟨m20, hm_, h⟩ := h
  refine Go.lle [some (.ref (xad (fX K) 14 0)), some (.int 0)] (by simp [lle]) ?_
  refine oX12_renderShelf_10 B    (fun s17 h => ?_) (CM := 27) (SM := 8154) (Nat.le_of_ble_eq_true rfl) (Nat.le_of_ble_eq_true rfl) m20 (by omega) (by omega) 0  s2 h
  refine g_aload_n (np := 64) B.1 dX12_renderShelf_63 rfl rfl ?_
  refine gf_Y_69_14 (np := 67) B.1 dX12_renderShelf_64 rfl ?_
  refine gc_Y_297 (np := 70) B 1 (cb (by decide : (1 : Nat) < 2)) (oJ4_length_8abf5 B.1.tr 1 (cb (by decide : (1 : Nat) < 2))   _ _ _ h) (Nat.le_of_ble_eq_true rfl) (Nat.le_of_ble_eq_true rfl) (Nat.le_of_ble_eq_true rfl) (Nat.le_of_ble_eq_true rfl) (Nat.le_of_ble_eq_true rfl) dX12_renderShelf_67 rfl (fun r18 s19 h => ?_)
  obtain ⟨es19, h⟩ := h
  rw [es19]
  exact g_iret B (ty := .int) rfl rfl (Nat.le_of_ble_eq_true rfl) (Nat.le_of_ble_eq_true rfl) dX12_renderShelf_70 ⟨_, rfl, h⟩
