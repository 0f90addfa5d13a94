def wX12_throwFor  (a1 : Nat) (s0 : Mem) (Q : Mem → Prop) (E : String → Mem → Prop) : Prop := ((¬ a1 = 1 → ((¬ a1 = 2 → ((¬ a1 = 3 → ((¬ a1 = 4 → ((¬ a1 = 5 → Q s0) ∧ (a1 = 5 → E "java/lang/IndexOutOfBoundsException" s0))) ∧ (a1 = 4 → E "java/util/NoSuchElementException" s0))) ∧ (a1 = 3 → E "java/lang/UnsupportedOperationException" s0))) ∧ (a1 = 2 → E "java/lang/IllegalStateException" s0))) ∧ (a1 = 1 → E "java/lang/IllegalArgumentException" s0))
set_option maxRecDepth 20000 in
set_option maxHeartbeats 4000000 in
theorem oX12_throwFor {l : Launch} {x : Ctx} (hl : l.stackTraces = false)   (a1 : Nat) (ha1 : a1 < 6) (s0 : Mem) (Q : Mem → Prop) (E : String → Mem → Prop) (h : wX12_throwFor  a1 s0 Q E) : MetG l x yX12_throwFor cX12_throwFor 1 none 6 82 1 6 [.ref (xen x 1 a1)] s0 (RV Q) E := by
  refine MetG.of hl (by decide) (Nat.le_of_ble_eq_true rfl) [some (.ref (xen x 1 a1))] rfl (fun K B hx _ => ?_)
  subst hx
  unfold wX12_throwFor at h
  refine g_aload_n (np := 1) B.1 dX12_throwFor_0 rfl rfl ?_
  refine g_getRef (np := 4) B.1 1 (by decide) b_557 dX12_throwFor_1 rfl ?_
  refine g_acmpE_ne (np := 7) (tgt := 18) B.1 ha1 (by decide) dX12_throwFor_4 (by decide) rfl (fun q => ?_) (fun q => ?_)
  · replace h := h.1 q
    refine g_aload_n (np := 19) B.1 dX12_throwFor_18 rfl rfl ?_
    refine g_getRef (np := 22) B.1 2 (by decide) b_580 dX12_throwFor_19 rfl ?_
    refine g_acmpE_ne (np := 25) (tgt := 36) B.1 ha1 (by decide) dX12_throwFor_22 (by decide) rfl (fun q => ?_) (fun q => ?_)
    · replace h := h.1 q
      refine g_aload_n (np := 37) B.1 dX12_throwFor_36 rfl rfl ?_
      refine g_getRef (np := 40) B.1 3 (by decide) b_573 dX12_throwFor_37 rfl ?_
      refine g_acmpE_ne (np := 43) (tgt := 54) B.1 ha1 (by decide) dX12_throwFor_40 (by decide) rfl (fun q => ?_) (fun q => ?_)
      · replace h := h.1 q
        refine g_aload_n (np := 55) B.1 dX12_throwFor_54 rfl rfl ?_
        refine g_getRef (np := 58) B.1 4 (by decide) b_599 dX12_throwFor_55 rfl ?_
        refine g_acmpE_ne (np := 61) (tgt := 72) B.1 ha1 (by decide) dX12_throwFor_58 (by decide) rfl (fun q => ?_) (fun q => ?_)
        · replace h := h.1 q
          refine g_aload_n (np := 73) B.1 dX12_throwFor_72 rfl rfl ?_
          refine g_getRef (np := 76) B.1 5 (by decide) b_622 dX12_throwFor_73 rfl ?_
          refine g_acmpE_ne (np := 79) (tgt := 90) B.1 ha1 (by decide) dX12_throwFor_76 (by decide) rfl (fun q => ?_) (fun q => ?_)
          · replace h := h.1 q
            exact g_vret B rfl (Nat.le_of_ble_eq_true rfl) (Nat.le_of_ble_eq_true rfl) dX12_throwFor_90 ⟨rfl, h⟩
          · replace h := h.2 q
            exact g_throwW B (text := "there is no such position on the shelf") rfl (by decide +kernel) (by decide +kernel) b_678 b_52 (by decide +kernel) at_309 at_309g dX12_throwFor_79 dX12_throwFor_82 dX12_throwFor_83 dX12_throwFor_86 dX12_throwFor_89 (by decide) (Nat.le_of_ble_eq_true rfl) (Nat.le_of_ble_eq_true rfl) (Nat.le_of_ble_eq_true rfl) h
        · replace h := h.2 q
          exact g_throwNW B (text := "there is no such open order") b_662 b_51 (by decide +kernel) dX12_throwFor_61 dX12_throwFor_64 dX12_throwFor_65 dX12_throwFor_68 dX12_throwFor_71 (Nat.le_of_ble_eq_true rfl) (Nat.le_of_ble_eq_true rfl) (Nat.le_of_ble_eq_true rfl) (Nat.le_of_ble_eq_true rfl) h
      · replace h := h.2 q
        exact g_throwW B (text := "there are too few coins, bales or kilograms") rfl (by decide +kernel) (by decide +kernel) b_646 b_50 (by decide +kernel) at_183 at_183g dX12_throwFor_43 dX12_throwFor_46 dX12_throwFor_47 dX12_throwFor_50 dX12_throwFor_53 (by decide) (Nat.le_of_ble_eq_true rfl) (Nat.le_of_ble_eq_true rfl) (Nat.le_of_ble_eq_true rfl) h
    · replace h := h.2 q
      exact g_throwW B (text := "there is no room, or too little to work on") rfl (by decide +kernel) (by decide +kernel) b_630 b_49 (by decide +kernel) at_327 at_327g dX12_throwFor_25 dX12_throwFor_28 dX12_throwFor_29 dX12_throwFor_32 dX12_throwFor_35 (by decide) (Nat.le_of_ble_eq_true rfl) (Nat.le_of_ble_eq_true rfl) (Nat.le_of_ble_eq_true rfl) h
  · replace h := h.2 q
    exact g_throwW B (text := "an argument is out of its range") rfl (by decide +kernel) (by decide +kernel) b_627 b_48 (by decide +kernel) at_318 at_318g dX12_throwFor_7 dX12_throwFor_10 dX12_throwFor_11 dX12_throwFor_14 dX12_throwFor_17 (by decide) (Nat.le_of_ble_eq_true rfl) (Nat.le_of_ble_eq_true rfl) (Nat.le_of_ble_eq_true rfl) h
def wX12_canBeBlend  (a1 : Int32) (a2 : Int32) (s0 : Mem) (Q : Int32 → Mem → Prop) (E : String → Mem → Prop) : Prop := wX12_isBetween  a1 1 500 s0 (fun (r1 : Int32) (s2 : Mem) => ((r1 = 0 → Q 0 s2) ∧ (¬ r1 = 0 → wX12_isBetween  a2 10 60 s2 (fun (r3 : Int32) (s4 : Mem) => ((r3 = 0 → Q 0 s4) ∧ (¬ r3 = 0 → Q 1 s4))) E))) E
set_option maxRecDepth 20000 in
set_option maxHeartbeats 4000000 in
theorem oX12_canBeBlend {l : Launch} {x : Ctx} (hl : l.stackTraces = false)   (a1 : Int32) (a2 : Int32)  (s0 : Mem) (Q : Int32 → Mem → Prop) (E : String → Mem → Prop) (h : wX12_canBeBlend  a1 a2 s0 Q E) : MetG l x yX12_canBeBlend cX12_canBeBlend 2 (some .boolean) 1 22 0 0 [.int a1, .int a2] s0 (RI Q) E := by
  refine MetG.of hl (by decide) (Nat.le_of_ble_eq_true rfl) [some (.int a1), some (.int a2)] rfl (fun K B hx _ => ?_)
  subst hx
  unfold wX12_canBeBlend at h
  refine g_iload_n (np := 1) B.1 dX12_canBeBlend_0 rfl rfl ?_
  refine g_iconst (np := 2) (v := 1) B.1 dX12_canBeBlend_1 (by decide) rfl ?_
  refine g_sipush (np := 5) (v := 500) B.1 dX12_canBeBlend_2 (by decide) rfl ?_
  refine gc_Y_432 (np := 8) B   (oX12_isBetween B.1.tr   a1 1 500  _ _ _ h) (Nat.le_of_ble_eq_true rfl) (Nat.le_of_ble_eq_true rfl) (Nat.le_of_ble_eq_true rfl) (Nat.le_of_ble_eq_true rfl) (Nat.le_of_ble_eq_true rfl) dX12_canBeBlend_5 rfl (fun r1 s2 h => ?_)
  refine g_if_eq (np := 11) (tgt := 26) B.1 dX12_canBeBlend_8 (by decide) rfl (fun q => ?_) (fun q => ?_)
  · replace h := h.1 q
    refine g_iconst (np := 27) (v := 0) B.1 dX12_canBeBlend_26 (by decide) rfl ?_
    exact g_iret B (ty := .boolean) rfl (by decide) (Nat.le_of_ble_eq_true rfl) (Nat.le_of_ble_eq_true rfl) dX12_canBeBlend_27 ⟨_, rfl, h⟩
  · replace h := h.2 q
    refine g_iload_n (np := 12) B.1 dX12_canBeBlend_11 rfl rfl ?_
    refine g_bipush (np := 14) (v := 10) B.1 dX12_canBeBlend_12 (by decide) rfl ?_
    refine g_bipush (np := 16) (v := 60) B.1 dX12_canBeBlend_14 (by decide) rfl ?_
    refine gc_Y_432 (np := 19) B   (oX12_isBetween B.1.tr   a2 10 60  _ _ _ h) (Nat.le_of_ble_eq_true rfl) (Nat.le_of_ble_eq_true rfl) (Nat.le_of_ble_eq_true rfl) (Nat.le_of_ble_eq_true rfl) (Nat.le_of_ble_eq_true rfl) dX12_canBeBlend_16 rfl (fun r3 s4 h => ?_)
    refine g_if_eq (np := 22) (tgt := 26) B.1 dX12_canBeBlend_19 (by decide) rfl (fun q => ?_) (fun q => ?_)
    · replace h := h.1 q
      refine g_iconst (np := 27) (v := 0) B.1 dX12_canBeBlend_26 (by decide) rfl ?_
      exact g_iret B (ty := .boolean) rfl (by decide) (Nat.le_of_ble_eq_true rfl) (Nat.le_of_ble_eq_true rfl) dX12_canBeBlend_27 ⟨_, rfl, h⟩
    · replace h := h.2 q
      refine g_iconst (np := 23) (v := 1) B.1 dX12_canBeBlend_22 (by decide) rfl ?_
      refine g_goto (tgt := 27) B.1 dX12_canBeBlend_23 (by decide) ?_
      exact g_iret B (ty := .boolean) rfl (by decide) (Nat.le_of_ble_eq_true rfl) (Nat.le_of_ble_eq_true rfl) dX12_canBeBlend_27 ⟨_, rfl, h⟩
def wX12_refusalOfBlending  (a1 : Int32) (a2 : Int32) (s0 : Mem) (Q : Nat → Mem → Prop) (E : String → Mem → Prop) : Prop := wX12_canBeBlend  a1 a2 s0 (fun (r1 : Int32) (s2 : Mem) => ((¬ r1 = 0 → wX2_bestSet  a1 a2 s2 (fun (r3 : Int32) (s4 : Mem) => ((¬ r3 = 0 → wX1_weightOf 0 r3 s4 (fun (r5 : Int32) (s6 : Mem) => (((rd s4 4 0 3) + r5 ≤ 999 → Q 0 s6) ∧ (¬ (rd s4 4 0 3) + r5 ≤ 999 → Q 2 s6))) E) ∧ (r3 = 0 → Q 3 s4))) E) ∧ (r1 = 0 → Q 1 s2))) E
set_option maxRecDepth 20000 in
set_option maxHeartbeats 4000000 in
theorem oX12_refusalOfBlending {l : Launch} {x : Ctx} (hl : l.stackTraces = false)   (a1 : Int32) (a2 : Int32)  (s0 : Mem) (Q : Nat → Mem → Prop) (E : String → Mem → Prop) (h : wX12_refusalOfBlending  a1 a2 s0 Q E) : MetG l x yX12_refusalOfBlending cX12_refusalOfBlending 4 (some (.object "YarnMill$Refusal")) 3 74 0 0 [.ref (xad x 14 0), .int a1, .int a2] s0 (RE x Q) E := by
  refine MetG.of hl (by decide) (Nat.le_of_ble_eq_true rfl) [some (.ref (xad x 14 0)), some (.int a1), some (.int a2), none] rfl (fun K B hx _ => ?_)
  subst hx
  unfold wX12_refusalOfBlending at h
  refine g_iload_n (np := 1) B.1 dX12_refusalOfBlending_0 rfl rfl ?_
  refine g_iload_n (np := 2) B.1 dX12_refusalOfBlending_1 rfl rfl ?_
  refine gc_Y_468 (np := 5) B   (oX12_canBeBlend B.1.tr   a1 a2  _ _ _ h) (Nat.le_of_ble_eq_true rfl) (Nat.le_of_ble_eq_true rfl) (Nat.le_of_ble_eq_true rfl) (Nat.le_of_ble_eq_true rfl) (Nat.le_of_ble_eq_true rfl) dX12_refusalOfBlending_2 rfl (fun r1 s2 h => ?_)
  refine g_if_ne (np := 8) (tgt := 12) B.1 dX12_refusalOfBlending_5 (by decide) rfl (fun q => ?_) (fun q => ?_)
  · replace h := h.1 q
    refine g_aload_n (np := 13) B.1 dX12_refusalOfBlending_12 rfl rfl ?_
    refine gf_Y_32_14 (np := 16) B.1 dX12_refusalOfBlending_13 rfl ?_
    refine g_aload_n (np := 17) B.1 dX12_refusalOfBlending_16 rfl rfl ?_
    refine gf_Y_10_14 (np := 20) B.1 dX12_refusalOfBlending_17 rfl ?_
    refine gf_Y_114_4 (np := 23) B.1 0 (by decide : (0 : Nat) < 11) dX12_refusalOfBlending_20 rfl ?_
    refine g_iload_n (np := 24) B.1 dX12_refusalOfBlending_23 rfl rfl ?_
    refine g_iload_n (np := 25) B.1 dX12_refusalOfBlending_24 rfl rfl ?_
    refine gc_Y_176 (np := 28) B   (oX2_bestSet B.1.tr   a1 a2  _ _ _ h) (Nat.le_of_ble_eq_true rfl) (Nat.le_of_ble_eq_true rfl) (Nat.le_of_ble_eq_true rfl) (Nat.le_of_ble_eq_true rfl) (Nat.le_of_ble_eq_true rfl) dX12_refusalOfBlending_25 rfl (fun r3 s4 h => ?_)
    refine g_istore_n (np := 29) (lv' := [some (.ref (xad (fX K) 14 0)), some (.int a1), some (.int a2), some (.int r3)]) B.1 dX12_refusalOfBlending_28 (by decide) rfl rfl rfl ?_
    refine g_iload_n (np := 30) B.1 dX12_refusalOfBlending_29 rfl rfl ?_
    refine g_if_ne (np := 33) (tgt := 37) B.1 dX12_refusalOfBlending_30 (by decide) rfl (fun q => ?_) (fun q => ?_)
    · replace h := h.1 q
      refine g_aload_n (np := 38) B.1 dX12_refusalOfBlending_37 rfl rfl ?_
      refine gf_Y_10_14 (np := 41) B.1 dX12_refusalOfBlending_38 rfl ?_
      refine gf_Y_250_4 (np := 44) B.1 0 (by decide : (0 : Nat) < 11) dX12_refusalOfBlending_41 rfl ?_
      refine g_aload_n (np := 45) B.1 dX12_refusalOfBlending_44 rfl rfl ?_
      refine gf_Y_10_14 (np := 48) B.1 dX12_refusalOfBlending_45 rfl ?_
      refine gf_Y_114_4 (np := 51) B.1 0 (by decide : (0 : Nat) < 11) dX12_refusalOfBlending_48 rfl ?_
      refine g_iload_n (np := 52) B.1 dX12_refusalOfBlending_51 rfl rfl ?_
      refine gc_Y_471 (np := 55) B 0 (by decide : (0 : Nat) < 11) (oX1_weightOf B.1.tr 0 (by decide : (0 : Nat) < 11) r3  _ _ _ h) (Nat.le_of_ble_eq_true rfl) (Nat.le_of_ble_eq_true rfl) (Nat.le_of_ble_eq_true rfl) (Nat.le_of_ble_eq_true rfl) (Nat.le_of_ble_eq_true rfl) dX12_refusalOfBlending_52 rfl (fun r5 s6 h => ?_)
      refine g_iadd (np := 56) B.1 dX12_refusalOfBlending_55 rfl ?_
      refine g_sipush (np := 59) (v := 999) B.1 dX12_refusalOfBlending_56 (by decide) rfl ?_
      refine g_icmp_le (np := 62) (tgt := 68) B.1 dX12_refusalOfBlending_59 (by decide) rfl (fun q => ?_) (fun q => ?_)
      · replace h := h.1 q
        refine g_getRef (np := 71) B.1 0 (by decide) b_581 dX12_refusalOfBlending_68 rfl ?_
        exact g_aret B rfl (Or.inl ⟨_, rfl⟩) (Or.inr ⟨_, rfl⟩) (Nat.le_of_ble_eq_true rfl) (Nat.le_of_ble_eq_true rfl) dX12_refusalOfBlending_71 ⟨_, rfl, (by decide), h⟩
      · replace h := h.2 q
        refine g_getRef (np := 65) B.1 2 (by decide) b_580 dX12_refusalOfBlending_62 rfl ?_
        refine g_goto (tgt := 71) B.1 dX12_refusalOfBlending_65 (by decide) ?_
        exact g_aret B rfl (Or.inl ⟨_, rfl⟩) (Or.inr ⟨_, rfl⟩) (Nat.le_of_ble_eq_true rfl) (Nat.le_of_ble_eq_true rfl) dX12_refusalOfBlending_71 ⟨_, rfl, (by decide), h⟩
    · replace h := h.2 q
      refine g_getRef (np := 36) B.1 3 (by decide) b_573 dX12_refusalOfBlending_33 rfl ?_
      exact g_aret B rfl (Or.inl ⟨_, rfl⟩) (Or.inr ⟨_, rfl⟩) (Nat.le_of_ble_eq_true rfl) (Nat.le_of_ble_eq_true rfl) dX12_refusalOfBlending_36 ⟨_, rfl, (by decide), h⟩
  · replace h := h.2 q
    refine g_getRef (np := 11) B.1 1 (by decide) b_557 dX12_refusalOfBlending_8 rfl ?_
    exact g_aret B rfl (Or.inl ⟨_, rfl⟩) (Or.inr ⟨_, rfl⟩) (Nat.le_of_ble_eq_true rfl) (Nat.le_of_ble_eq_true rfl) dX12_refusalOfBlending_11 ⟨_, rfl, (by decide), h⟩
def wX12_refusalOf  (a1 : Nat) (a2 : Int32) (a3 : Int32) (a4 : Int32) (s0 : Mem) (Q : Nat → Mem → Prop) (E : String → Mem → Prop) : Prop := ((a1 = 0 → wX10_refusalOfBuying 0 a2 a3 a4 s0 (fun (r1 : Nat) (s2 : Mem) => Q r1 s2) E) ∧ (a1 = 1 → wX12_refusalOfBlending  a2 a3 s0 (fun (r3 : Nat) (s4 : Mem) => Q r3 s4) E) ∧ (a1 = 2 → wX5_refusalOfOpening 0 a2 a3 s0 (fun (r5 : Nat) (s6 : Mem) => Q r5 s6) E) ∧ (a1 = 3 → wX7_find 5 a2 s0 (fun (r7 : Int32) (s8 : Mem) => wX7_has 5 r7 s8 (fun (r9 : Int32) (s10 : Mem) => ((r9 = 0 → Q 4 s10) ∧ (¬ r9 = 0 → Q 0 s10))) E) E) ∧ (a1 = 4 → wX12_isBetween  a2 1 3 s0 (fun (r11 : Int32) (s12 : Mem) => ((r11 = 0 → Q 1 s12) ∧ (¬ r11 = 0 → Q 0 s12))) E) ∧ (a1 = 5 → wX7_find 5 a2 s0 (fun (r13 : Int32) (s14 : Mem) => wX10_refusalOfSpinning 0 r13 s14 (fun (r15 : Nat) (s16 : Mem) => Q r15 s16) E) E) ∧ (a1 = 6 → wX7_hasPair 9 a2 s0 (fun (r17 : Int32) (s18 : Mem) => ((r17 = 0 → Q 5 s18) ∧ (¬ r17 = 0 → Q 0 s18))) E) ∧ (a1 = 7 → wX7_size 9  s0 (fun (r19 : Int32) (s20 : Mem) => ((2 ≤ r19 → Q 0 s20) ∧ (¬ 2 ≤ r19 → Q 2 s20))) E) ∧ (a1 = 8 → wX7_has 9 a2 s0 (fun (r21 : Int32) (s22 : Mem) => ((r21 = 0 → Q 5 s22) ∧ (¬ r21 = 0 → Q 0 s22))) E))
set_option maxRecDepth 20000 in
set_option maxHeartbeats 4000000 in
theorem oX12_refusalOf {l : Launch} {x : Ctx} (hl : l.stackTraces = false)   (a1 : Nat) (a2 : Int32) (a3 : Int32) (a4 : Int32) (ha1 : a1 < 9) (s0 : Mem) (Q : Nat → Mem → Prop) (E : String → Mem → Prop) (h : wX12_refusalOf  a1 a2 a3 a4 s0 Q E) : MetG l x yX12_refusalOf cX12_refusalOf 5 (some (.object "YarnMill$Refusal")) 4 97 0 0 [.ref (xad x 14 0), .ref (xen x 0 a1), .int a2, .int a3, .int a4] s0 (RE x Q) E := by
  refine MetG.of hl (by decide) (Nat.le_of_ble_eq_true rfl) [some (.ref (xad x 14 0)), some (.ref (xen x 0 a1)), some (.int a2), some (.int a3), some (.int a4)] rfl (fun K B hx _ => ?_)
  subst hx
  unfold wX12_refusalOf at h
  refine g_getSwm (np := 3) B.1 b_522 dX12_refusalOf_0 rfl ?_
  refine g_aload_n (np := 4) B.1 dX12_refusalOf_3 rfl rfl ?_
  refine g_ordinal (np := 7) B ha1 b_1670 b_524 b_525 b_527 b_528 b_41 b_529 (Nat.le_of_ble_eq_true rfl) (Nat.le_of_ble_eq_true rfl) (Nat.le_of_ble_eq_true rfl) (Nat.le_of_ble_eq_true rfl) (Nat.le_of_ble_eq_true rfl) dX12_refusalOf_4 rfl ?_
  refine g_swm (np := 8) B.1 ha1 rfl dX12_refusalOf_7 rfl ?_
  have e9 : a1 = 0 ∨ a1 = 1 ∨ a1 = 2 ∨ a1 = 3 ∨ a1 = 4 ∨ a1 = 5 ∨ a1 = 6 ∨ a1 = 7 ∨ a1 = 8 := by omega
  rcases e9 with rfl | rfl | rfl | rfl | rfl | rfl | rfl | rfl | rfl
  · have h := h.1 rfl
    refine g_tabIn (tgt := 60) B.1 dX12_refusalOf_8 (by decide) (by decide) rfl (by decide) ?_
    refine g_aload_n (np := 61) B.1 dX12_refusalOf_60 rfl rfl ?_
    refine gf_Y_10_14 (np := 64) B.1 dX12_refusalOf_61 rfl ?_
    refine g_iload_n (np := 65) B.1 dX12_refusalOf_64 rfl rfl ?_
    refine g_iload_n (np := 66) B.1 dX12_refusalOf_65 rfl rfl ?_
    refine g_iload (np := 68) B.1 dX12_refusalOf_66 rfl rfl ?_
    refine gc_Y_418 (np := 71) B 0 (by decide : (0 : Nat) < 11) (oX10_refusalOfBuying B.1.tr 0 (by decide : (0 : Nat) < 11) a2 a3 a4  _ _ _ h) (Nat.le_of_ble_eq_true rfl) (Nat.le_of_ble_eq_true rfl) (Nat.le_of_ble_eq_true rfl) (Nat.le_of_ble_eq_true rfl) (Nat.le_of_ble_eq_true rfl) dX12_refusalOf_68 rfl (fun r1 hr1 s2 h => ?_)
    exact g_aret B rfl (Or.inl ⟨_, rfl⟩) (Or.inr ⟨_, rfl⟩) (Nat.le_of_ble_eq_true rfl) (Nat.le_of_ble_eq_true rfl) dX12_refusalOf_71 ⟨_, rfl, hr1, h⟩
  · have h := h.2.1 rfl
    refine g_tabIn (tgt := 72) B.1 dX12_refusalOf_8 (by decide) (by decide) rfl (by decide) ?_
    refine g_aload_n (np := 73) B.1 dX12_refusalOf_72 rfl rfl ?_
    refine g_iload_n (np := 74) B.1 dX12_refusalOf_73 rfl rfl ?_
    refine g_iload_n (np := 75) B.1 dX12_refusalOf_74 rfl rfl ?_
    refine gc_Y_422 (np := 78) B   (oX12_refusalOfBlending B.1.tr   a2 a3  _ _ _ h) (Nat.le_of_ble_eq_true rfl) (Nat.le_of_ble_eq_true rfl) (Nat.le_of_ble_eq_true rfl) (Nat.le_of_ble_eq_true rfl) (Nat.le_of_ble_eq_true rfl) dX12_refusalOf_75 rfl (fun r3 hr3 s4 h => ?_)
    exact g_aret B rfl (Or.inl ⟨_, rfl⟩) (Or.inr ⟨_, rfl⟩) (Nat.le_of_ble_eq_true rfl) (Nat.le_of_ble_eq_true rfl) dX12_refusalOf_78 ⟨_, rfl, hr3, h⟩
  · have h := h.2.2.1 rfl
    refine g_tabIn (tgt := 79) B.1 dX12_refusalOf_8 (by decide) (by decide) rfl (by decide) ?_
    refine g_aload_n (np := 80) B.1 dX12_refusalOf_79 rfl rfl ?_
    refine gf_Y_10_14 (np := 83) B.1 dX12_refusalOf_80 rfl ?_
    refine gf_Y_184_4 (np := 86) B.1 0 (by decide : (0 : Nat) < 11) dX12_refusalOf_83 rfl ?_
    refine g_iload_n (np := 87) B.1 dX12_refusalOf_86 rfl rfl ?_
    refine g_iload_n (np := 88) B.1 dX12_refusalOf_87 rfl rfl ?_
    refine gc_Y_426 (np := 91) B 0 (by decide : (0 : Nat) < 11) (oX5_refusalOfOpening B.1.tr 0 (by decide : (0 : Nat) < 11) a2 a3  _ _ _ h) (Nat.le_of_ble_eq_true rfl) (Nat.le_of_ble_eq_true rfl) (Nat.le_of_ble_eq_true rfl) (Nat.le_of_ble_eq_true rfl) (Nat.le_of_ble_eq_true rfl) dX12_refusalOf_88 rfl (fun r5 hr5 s6 h => ?_)
    exact g_aret B rfl (Or.inl ⟨_, rfl⟩) (Or.inr ⟨_, rfl⟩) (Nat.le_of_ble_eq_true rfl) (Nat.le_of_ble_eq_true rfl) dX12_refusalOf_91 ⟨_, rfl, hr5, h⟩
  · have h := h.2.2.2.1 rfl
    refine g_tabIn (tgt := 92) B.1 dX12_refusalOf_8 (by decide) (by decide) rfl (by decide) ?_
    refine g_aload_n (np := 93) B.1 dX12_refusalOf_92 rfl rfl ?_
    refine gf_Y_10_14 (np := 96) B.1 dX12_refusalOf_93 rfl ?_
    refine gf_Y_184_4 (np := 99) B.1 0 (by decide : (0 : Nat) < 11) dX12_refusalOf_96 rfl ?_
    refine gf_Y_188_3 (np := 102) B.1 0 (by decide : (0 : Nat) < 11) dX12_refusalOf_99 rfl ?_
    refine g_aload_n (np := 103) B.1 dX12_refusalOf_102 rfl rfl ?_
    refine gf_Y_10_14 (np := 106) B.1 dX12_refusalOf_103 rfl ?_
    refine gf_Y_184_4 (np := 109) B.1 0 (by decide : (0 : Nat) < 11) dX12_refusalOf_106 rfl ?_
    refine gf_Y_188_3 (np := 112) B.1 0 (by decide : (0 : Nat) < 11) dX12_refusalOf_109 rfl ?_
    refine g_iload_n (np := 113) B.1 dX12_refusalOf_112 rfl rfl ?_
    refine gc_Y_429 (np := 116) B 5 (by decide : (5 : Nat) < 112) (oX7_find B.1.tr 5 (by decide : (5 : Nat) < 112) a2  _ _ _ h) (Nat.le_of_ble_eq_true rfl) (Nat.le_of_ble_eq_true rfl) (Nat.le_of_ble_eq_true rfl) (Nat.le_of_ble_eq_true rfl) (Nat.le_of_ble_eq_true rfl) dX12_refusalOf_113 rfl (fun r7 s8 h => ?_)
    refine gc_Y_127 (np := 119) B 5 (by decide : (5 : Nat) < 112) (oX7_has B.1.tr 5 (by decide : (5 : Nat) < 112) r7  _ _ _ h) (Nat.le_of_ble_eq_true rfl) (Nat.le_of_ble_eq_true rfl) (Nat.le_of_ble_eq_true rfl) (Nat.le_of_ble_eq_true rfl) (Nat.le_of_ble_eq_true rfl) dX12_refusalOf_116 rfl (fun r9 s10 h => ?_)
    refine g_if_eq (np := 122) (tgt := 128) B.1 dX12_refusalOf_119 (by decide) rfl (fun q => ?_) (fun q => ?_)
    · replace h := h.1 q
      refine g_getRef (np := 131) B.1 4 (by decide) b_599 dX12_refusalOf_128 rfl ?_
      exact g_aret B rfl (Or.inl ⟨_, rfl⟩) (Or.inr ⟨_, rfl⟩) (Nat.le_of_ble_eq_true rfl) (Nat.le_of_ble_eq_true rfl) dX12_refusalOf_131 ⟨_, rfl, (by decide), h⟩
    · replace h := h.2 q
      refine g_getRef (np := 125) B.1 0 (by decide) b_581 dX12_refusalOf_122 rfl ?_
      refine g_goto (tgt := 131) B.1 dX12_refusalOf_125 (by decide) ?_
      exact g_aret B rfl (Or.inl ⟨_, rfl⟩) (Or.inr ⟨_, rfl⟩) (Nat.le_of_ble_eq_true rfl) (Nat.le_of_ble_eq_true rfl) dX12_refusalOf_131 ⟨_, rfl, (by decide), h⟩
  · have h := h.2.2.2.2.1 rfl
    refine g_tabIn (tgt := 132) B.1 dX12_refusalOf_8 (by decide) (by decide) rfl (by decide) ?_
    refine g_iload_n (np := 133) B.1 dX12_refusalOf_132 rfl rfl ?_
    refine g_iconst (np := 134) (v := 1) B.1 dX12_refusalOf_133 (by decide) rfl ?_
    refine g_iconst (np := 135) (v := 3) B.1 dX12_refusalOf_134 (by decide) rfl ?_
    refine gc_Y_432 (np := 138) B   (oX12_isBetween B.1.tr   a2 1 3  _ _ _ h) (Nat.le_of_ble_eq_true rfl) (Nat.le_of_ble_eq_true rfl) (Nat.le_of_ble_eq_true rfl) (Nat.le_of_ble_eq_true rfl) (Nat.le_of_ble_eq_true rfl) dX12_refusalOf_135 rfl (fun r11 s12 h => ?_)
    refine g_if_eq (np := 141) (tgt := 147) B.1 dX12_refusalOf_138 (by decide) rfl (fun q => ?_) (fun q => ?_)
    · replace h := h.1 q
      refine g_getRef (np := 150) B.1 1 (by decide) b_557 dX12_refusalOf_147 rfl ?_
      exact g_aret B rfl (Or.inl ⟨_, rfl⟩) (Or.inr ⟨_, rfl⟩) (Nat.le_of_ble_eq_true rfl) (Nat.le_of_ble_eq_true rfl) dX12_refusalOf_150 ⟨_, rfl, (by decide), h⟩
    · replace h := h.2 q
      refine g_getRef (np := 144) B.1 0 (by decide) b_581 dX12_refusalOf_141 rfl ?_
      refine g_goto (tgt := 150) B.1 dX12_refusalOf_144 (by decide) ?_
      exact g_aret B rfl (Or.inl ⟨_, rfl⟩) (Or.inr ⟨_, rfl⟩) (Nat.le_of_ble_eq_true rfl) (Nat.le_of_ble_eq_true rfl) dX12_refusalOf_150 ⟨_, rfl, (by decide), h⟩
  · have h := h.2.2.2.2.2.1 rfl
    refine g_tabIn (tgt := 151) B.1 dX12_refusalOf_8 (by decide) (by decide) rfl (by decide) ?_
    refine g_aload_n (np := 152) B.1 dX12_refusalOf_151 rfl rfl ?_
    refine gf_Y_10_14 (np := 155) B.1 dX12_refusalOf_152 rfl ?_
    refine g_aload_n (np := 156) B.1 dX12_refusalOf_155 rfl rfl ?_
    refine gf_Y_10_14 (np := 159) B.1 dX12_refusalOf_156 rfl ?_
    refine gf_Y_184_4 (np := 162) B.1 0 (by decide : (0 : Nat) < 11) dX12_refusalOf_159 rfl ?_
    refine gf_Y_188_3 (np := 165) B.1 0 (by decide : (0 : Nat) < 11) dX12_refusalOf_162 rfl ?_
    refine g_iload_n (np := 166) B.1 dX12_refusalOf_165 rfl rfl ?_
    refine gc_Y_429 (np := 169) B 5 (by decide : (5 : Nat) < 112) (oX7_find B.1.tr 5 (by decide : (5 : Nat) < 112) a2  _ _ _ h) (Nat.le_of_ble_eq_true rfl) (Nat.le_of_ble_eq_true rfl) (Nat.le_of_ble_eq_true rfl) (Nat.le_of_ble_eq_true rfl) (Nat.le_of_ble_eq_true rfl) dX12_refusalOf_166 rfl (fun r13 s14 h => ?_)
    refine gc_Y_205 (np := 172) B 0 (by decide : (0 : Nat) < 11) (oX10_refusalOfSpinning B.1.tr 0 (by decide : (0 : Nat) < 11) r13  _ _ _ h) (Nat.le_of_ble_eq_true rfl) (Nat.le_of_ble_eq_true rfl) (Nat.le_of_ble_eq_true rfl) (Nat.le_of_ble_eq_true rfl) (Nat.le_of_ble_eq_true rfl) dX12_refusalOf_169 rfl (fun r15 hr15 s16 h => ?_)
    exact g_aret B rfl (Or.inl ⟨_, rfl⟩) (Or.inr ⟨_, rfl⟩) (Nat.le_of_ble_eq_true rfl) (Nat.le_of_ble_eq_true rfl) dX12_refusalOf_172 ⟨_, rfl, hr15, h⟩
  · have h := h.2.2.2.2.2.2.1 rfl
    refine g_tabIn (tgt := 173) B.1 dX12_refusalOf_8 (by decide) (by decide) rfl (by decide) ?_
    refine g_aload_n (np := 174) B.1 dX12_refusalOf_173 rfl rfl ?_
    refine gf_Y_10_14 (np := 177) B.1 dX12_refusalOf_174 rfl ?_
    refine gf_Y_229_4 (np := 180) B.1 0 (by decide : (0 : Nat) < 11) dX12_refusalOf_177 rfl ?_
    refine g_iload_n (np := 181) B.1 dX12_refusalOf_180 rfl rfl ?_
    refine gc_Y_436 (np := 184) B 9 (by decide : (9 : Nat) < 112) (oX7_hasPair B.1.tr 9 (by decide : (9 : Nat) < 112) a2  _ _ _ h) (Nat.le_of_ble_eq_true rfl) (Nat.le_of_ble_eq_true rfl) (Nat.le_of_ble_eq_true rfl) (Nat.le_of_ble_eq_true rfl) (Nat.le_of_ble_eq_true rfl) dX12_refusalOf_181 rfl (fun r17 s18 h => ?_)
    refine g_if_eq (np := 187) (tgt := 193) B.1 dX12_refusalOf_184 (by decide) rfl (fun q => ?_) (fun q => ?_)
    · replace h := h.1 q
      refine g_getRef (np := 196) B.1 5 (by decide) b_622 dX12_refusalOf_193 rfl ?_
      exact g_aret B rfl (Or.inl ⟨_, rfl⟩) (Or.inr ⟨_, rfl⟩) (Nat.le_of_ble_eq_true rfl) (Nat.le_of_ble_eq_true rfl) dX12_refusalOf_196 ⟨_, rfl, (by decide), h⟩
    · replace h := h.2 q
      refine g_getRef (np := 190) B.1 0 (by decide) b_581 dX12_refusalOf_187 rfl ?_
      refine g_goto (tgt := 196) B.1 dX12_refusalOf_190 (by decide) ?_
      exact g_aret B rfl (Or.inl ⟨_, rfl⟩) (Or.inr ⟨_, rfl⟩) (Nat.le_of_ble_eq_true rfl) (Nat.le_of_ble_eq_true rfl) dX12_refusalOf_196 ⟨_, rfl, (by decide), h⟩
  · have h := h.2.2.2.2.2.2.2.1 rfl
    refine g_tabIn (tgt := 197) B.1 dX12_refusalOf_8 (by decide) (by decide) rfl (by decide) ?_
    refine g_aload_n (np := 198) B.1 dX12_refusalOf_197 rfl rfl ?_
    refine gf_Y_10_14 (np := 201) B.1 dX12_refusalOf_198 rfl ?_
    refine gf_Y_229_4 (np := 204) B.1 0 (by decide : (0 : Nat) < 11) dX12_refusalOf_201 rfl ?_
    refine gc_Y_123 (np := 207) B 9 (by decide : (9 : Nat) < 112) (oX7_size B.1.tr 9 (by decide : (9 : Nat) < 112)   _ _ _ h) (Nat.le_of_ble_eq_true rfl) (Nat.le_of_ble_eq_true rfl) (Nat.le_of_ble_eq_true rfl) (Nat.le_of_ble_eq_true rfl) (Nat.le_of_ble_eq_true rfl) dX12_refusalOf_204 rfl (fun r19 s20 h => ?_)
    refine g_iconst (np := 208) (v := 2) B.1 dX12_refusalOf_207 (by decide) rfl ?_
    refine g_icmp_ge (np := 211) (tgt := 217) B.1 dX12_refusalOf_208 (by decide) rfl (fun q => ?_) (fun q => ?_)
    · replace h := h.1 q
      refine g_getRef (np := 220) B.1 0 (by decide) b_581 dX12_refusalOf_217 rfl ?_
      exact g_aret B rfl (Or.inl ⟨_, rfl⟩) (Or.inr ⟨_, rfl⟩) (Nat.le_of_ble_eq_true rfl) (Nat.le_of_ble_eq_true rfl) dX12_refusalOf_220 ⟨_, rfl, (by decide), h⟩
    · replace h := h.2 q
      refine g_getRef (np := 214) B.1 2 (by decide) b_580 dX12_refusalOf_211 rfl ?_
      refine g_goto (tgt := 220) B.1 dX12_refusalOf_214 (by decide) ?_
      exact g_aret B rfl (Or.inl ⟨_, rfl⟩) (Or.inr ⟨_, rfl⟩) (Nat.le_of_ble_eq_true rfl) (Nat.le_of_ble_eq_true rfl) dX12_refusalOf_220 ⟨_, rfl, (by decide), h⟩
  · have h := h.2.2.2.2.2.2.2.2 rfl
    refine g_tabIn (tgt := 221) B.1 dX12_refusalOf_8 (by decide) (by decide) rfl (by decide) ?_
    refine g_aload_n (np := 222) B.1 dX12_refusalOf_221 rfl rfl ?_
    refine gf_Y_10_14 (np := 225) B.1 dX12_refusalOf_222 rfl ?_
    refine gf_Y_229_4 (np := 228) B.1 0 (by decide : (0 : Nat) < 11) dX12_refusalOf_225 rfl ?_
    refine g_iload_n (np := 229) B.1 dX12_refusalOf_228 rfl rfl ?_
    refine gc_Y_127 (np := 232) B 9 (by decide : (9 : Nat) < 112) (oX7_has B.1.tr 9 (by decide : (9 : Nat) < 112) a2  _ _ _ h) (Nat.le_of_ble_eq_true rfl) (Nat.le_of_ble_eq_true rfl) (Nat.le_of_ble_eq_true rfl) (Nat.le_of_ble_eq_true rfl) (Nat.le_of_ble_eq_true rfl) dX12_refusalOf_229 rfl (fun r21 s22 h => ?_)
    refine g_if_eq (np := 235) (tgt := 241) B.1 dX12_refusalOf_232 (by decide) rfl (fun q => ?_) (fun q => ?_)
    · replace h := h.1 q
      refine g_getRef (np := 244) B.1 5 (by decide) b_622 dX12_refusalOf_241 rfl ?_
      exact g_aret B rfl (Or.inl ⟨_, rfl⟩) (Or.inr ⟨_, rfl⟩) (Nat.le_of_ble_eq_true rfl) (Nat.le_of_ble_eq_true rfl) dX12_refusalOf_244 ⟨_, rfl, (by decide), h⟩
    · replace h := h.2 q
      refine g_getRef (np := 238) B.1 0 (by decide) b_581 dX12_refusalOf_235 rfl ?_
      refine g_goto (tgt := 244) B.1 dX12_refusalOf_238 (by decide) ?_
      exact g_aret B rfl (Or.inl ⟨_, rfl⟩) (Or.inr ⟨_, rfl⟩) (Nat.le_of_ble_eq_true rfl) (Nat.le_of_ble_eq_true rfl) dX12_refusalOf_244 ⟨_, rfl, (by decide), h⟩
def wX12_carryOut  (a1 : Nat) (a2 : Int32) (a3 : Int32) (a4 : Int32) (s0 : Mem) (Q : Int32 → Mem → Prop) (E : String → Mem → Prop) : Prop := ((a1 = 0 → wX10_takeBale 0 a2 a3 a4 s0 (fun (r1 : Int32) (s2 : Mem) => Q r1 s2) E) ∧ (a1 = 1 → wX2_bestSet  a2 a3 s0 (fun (r3 : Int32) (s4 : Mem) => wX10_useBales 0 r3 s4 (fun (r5 : Int32) (s6 : Mem) => Q r5 s6) E) E) ∧ (a1 = 2 → wX5_open 0 a2 a3 s0 (fun (r7 : Int32) (s8 : Mem) => Q r7 s8) E) ∧ (a1 = 3 → wX7_find 5 a2 s0 (fun (r9 : Int32) (s10 : Mem) => wX5_close 0 r9 s10 (fun (r11 : Int32) (s12 : Mem) => Q r11 s12) E) E) ∧ (a1 = 4 → wX10_changeMachines 0 a2 s0 (fun (r13 : Int32) (s14 : Mem) => Q r13 s14) E) ∧ (a1 = 5 → wX7_find 5 a2 s0 (fun (r15 : Int32) (s16 : Mem) => wX10_spinAt 0 r15 s16 (fun (r17 : Int32) (s18 : Mem) => Q r17 s18) E) E) ∧ (a1 = 6 → wX10_spliceAt 0 a2 s0 (fun (r19 : Int32) (s20 : Mem) => Q r19 s20) E) ∧ (a1 = 7 → wX9_costByTable   s0 (fun (r21 : Int32) (s22 : Mem) => wX10_joinPieces 0 r21 s22 (fun (r23 : Int32) (s24 : Mem) => Q r23 s24) E) E) ∧ (a1 = 8 → wX10_sellAt 0 a2 s0 (fun (r25 : Int32) (s26 : Mem) => Q r25 s26) E))
set_option maxRecDepth 20000 in
set_option maxHeartbeats 4000000 in
theorem oX12_carryOut {l : Launch} {x : Ctx} (hl : l.stackTraces = false)   (a1 : Nat) (a2 : Int32) (a3 : Int32) (a4 : Int32) (ha1 : a1 < 9) (s0 : Mem) (Q : Int32 → Mem → Prop) (E : String → Mem → Prop) (h : wX12_carryOut  a1 a2 a3 a4 s0 Q E) : MetG l x yX12_carryOut cX12_carryOut 5 (some .int) 4 89 0 0 [.ref (xad x 14 0), .ref (xen x 0 a1), .int a2, .int a3, .int a4] s0 (RI Q) E := by
  refine MetG.of hl (by decide) (Nat.le_of_ble_eq_true rfl) [some (.ref (xad x 14 0)), some (.ref (xen x 0 a1)), some (.int a2), some (.int a3), some (.int a4)] rfl (fun K B hx _ => ?_)
  subst hx
  unfold wX12_carryOut at h
  refine g_getSwm (np := 3) B.1 b_522 dX12_carryOut_0 rfl ?_
  refine g_aload_n (np := 4) B.1 dX12_carryOut_3 rfl rfl ?_
  refine g_ordinal (np := 7) B ha1 b_1670 b_524 b_525 b_527 b_528 b_41 b_529 (Nat.le_of_ble_eq_true rfl) (Nat.le_of_ble_eq_true rfl) (Nat.le_of_ble_eq_true rfl) (Nat.le_of_ble_eq_true rfl) (Nat.le_of_ble_eq_true rfl) dX12_carryOut_4 rfl ?_
  refine g_swm (np := 8) B.1 ha1 rfl dX12_carryOut_7 rfl ?_
  have e9 : a1 = 0 ∨ a1 = 1 ∨ a1 = 2 ∨ a1 = 3 ∨ a1 = 4 ∨ a1 = 5 ∨ a1 = 6 ∨ a1 = 7 ∨ a1 = 8 := by omega
  rcases e9 with rfl | rfl | rfl | rfl | rfl | rfl | rfl | rfl | rfl
  · have h := h.1 rfl
    refine g_tabIn (tgt := 60) B.1 dX12_carryOut_8 (by decide) (by decide) rfl (by decide) ?_
    refine g_aload_n (np := 61) B.1 dX12_carryOut_60 rfl rfl ?_
    refine gf_Y_10_14 (np := 64) B.1 dX12_carryOut_61 rfl ?_
    refine g_iload_n (np := 65) B.1 dX12_carryOut_64 rfl rfl ?_
    refine g_iload_n (np := 66) B.1 dX12_carryOut_65 rfl rfl ?_
    refine g_iload (np := 68) B.1 dX12_carryOut_66 rfl rfl ?_
    refine gc_Y_439 (np := 71) B 0 (by decide : (0 : Nat) < 11) (oX10_takeBale B.1.tr 0 (by decide : (0 : Nat) < 11) a2 a3 a4  _ _ _ h) (Nat.le_of_ble_eq_true rfl) (Nat.le_of_ble_eq_true rfl) (Nat.le_of_ble_eq_true rfl) (Nat.le_of_ble_eq_true rfl) (Nat.le_of_ble_eq_true rfl) dX12_carryOut_68 rfl (fun r1 s2 h => ?_)
    exact g_iret B (ty := .int) rfl rfl (Nat.le_of_ble_eq_true rfl) (Nat.le_of_ble_eq_true rfl) dX12_carryOut_71 ⟨_, rfl, h⟩
  · have h := h.2.1 rfl
    refine g_tabIn (tgt := 72) B.1 dX12_carryOut_8 (by decide) (by decide) rfl (by decide) ?_
    refine g_aload_n (np := 73) B.1 dX12_carryOut_72 rfl rfl ?_
    refine gf_Y_10_14 (np := 76) B.1 dX12_carryOut_73 rfl ?_
    refine g_aload_n (np := 77) B.1 dX12_carryOut_76 rfl rfl ?_
    refine gf_Y_32_14 (np := 80) B.1 dX12_carryOut_77 rfl ?_
    refine g_aload_n (np := 81) B.1 dX12_carryOut_80 rfl rfl ?_
    refine gf_Y_10_14 (np := 84) B.1 dX12_carryOut_81 rfl ?_
    refine gf_Y_114_4 (np := 87) B.1 0 (by decide : (0 : Nat) < 11) dX12_carryOut_84 rfl ?_
    refine g_iload_n (np := 88) B.1 dX12_carryOut_87 rfl rfl ?_
    refine g_iload_n (np := 89) B.1 dX12_carryOut_88 rfl rfl ?_
    refine gc_Y_176 (np := 92) B   (oX2_bestSet B.1.tr   a2 a3  _ _ _ h) (Nat.le_of_ble_eq_true rfl) (Nat.le_of_ble_eq_true rfl) (Nat.le_of_ble_eq_true rfl) (Nat.le_of_ble_eq_true rfl) (Nat.le_of_ble_eq_true rfl) dX12_carryOut_89 rfl (fun r3 s4 h => ?_)
    refine gc_Y_443 (np := 95) B 0 (by decide : (0 : Nat) < 11) (oX10_useBales B.1.tr 0 (by decide : (0 : Nat) < 11) r3  _ _ _ h) (Nat.le_of_ble_eq_true rfl) (Nat.le_of_ble_eq_true rfl) (Nat.le_of_ble_eq_true rfl) (Nat.le_of_ble_eq_true rfl) (Nat.le_of_ble_eq_true rfl) dX12_carryOut_92 rfl (fun r5 s6 h => ?_)
    exact g_iret B (ty := .int) rfl rfl (Nat.le_of_ble_eq_true rfl) (Nat.le_of_ble_eq_true rfl) dX12_carryOut_95 ⟨_, rfl, h⟩
  · have h := h.2.2.1 rfl
    refine g_tabIn (tgt := 96) B.1 dX12_carryOut_8 (by decide) (by decide) rfl (by decide) ?_
    refine g_aload_n (np := 97) B.1 dX12_carryOut_96 rfl rfl ?_
    refine gf_Y_10_14 (np := 100) B.1 dX12_carryOut_97 rfl ?_
    refine gf_Y_184_4 (np := 103) B.1 0 (by decide : (0 : Nat) < 11) dX12_carryOut_100 rfl ?_
    refine g_iload_n (np := 104) B.1 dX12_carryOut_103 rfl rfl ?_
    refine g_iload_n (np := 105) B.1 dX12_carryOut_104 rfl rfl ?_
    refine gc_Y_446 (np := 108) B 0 (by decide : (0 : Nat) < 11) (oX5_open B.1.tr 0 (by decide : (0 : Nat) < 11) a2 a3  _ _ _ h) (Nat.le_of_ble_eq_true rfl) (Nat.le_of_ble_eq_true rfl) (Nat.le_of_ble_eq_true rfl) (Nat.le_of_ble_eq_true rfl) (Nat.le_of_ble_eq_true rfl) dX12_carryOut_105 rfl (fun r7 s8 h => ?_)
    exact g_iret B (ty := .int) rfl rfl (Nat.le_of_ble_eq_true rfl) (Nat.le_of_ble_eq_true rfl) dX12_carryOut_108 ⟨_, rfl, h⟩
  · have h := h.2.2.2.1 rfl
    refine g_tabIn (tgt := 109) B.1 dX12_carryOut_8 (by decide) (by decide) rfl (by decide) ?_
    refine g_aload_n (np := 110) B.1 dX12_carryOut_109 rfl rfl ?_
    refine gf_Y_10_14 (np := 113) B.1 dX12_carryOut_110 rfl ?_
    refine gf_Y_184_4 (np := 116) B.1 0 (by decide : (0 : Nat) < 11) dX12_carryOut_113 rfl ?_
    refine g_aload_n (np := 117) B.1 dX12_carryOut_116 rfl rfl ?_
    refine gf_Y_10_14 (np := 120) B.1 dX12_carryOut_117 rfl ?_
    refine gf_Y_184_4 (np := 123) B.1 0 (by decide : (0 : Nat) < 11) dX12_carryOut_120 rfl ?_
    refine gf_Y_188_3 (np := 126) B.1 0 (by decide : (0 : Nat) < 11) dX12_carryOut_123 rfl ?_
    refine g_iload_n (np := 127) B.1 dX12_carryOut_126 rfl rfl ?_
    refine gc_Y_429 (np := 130) B 5 (by decide : (5 : Nat) < 112) (oX7_find B.1.tr 5 (by decide : (5 : Nat) < 112) a2  _ _ _ h) (Nat.le_of_ble_eq_true rfl) (Nat.le_of_ble_eq_true rfl) (Nat.le_of_ble_eq_true rfl) (Nat.le_of_ble_eq_true rfl) (Nat.le_of_ble_eq_true rfl) dX12_carryOut_127 rfl (fun r9 s10 h => ?_)
    refine gc_Y_450 (np := 133) B 0 (by decide : (0 : Nat) < 11) (oX5_close B.1.tr 0 (by decide : (0 : Nat) < 11) r9  _ _ _ h) (Nat.le_of_ble_eq_true rfl) (Nat.le_of_ble_eq_true rfl) (Nat.le_of_ble_eq_true rfl) (Nat.le_of_ble_eq_true rfl) (Nat.le_of_ble_eq_true rfl) dX12_carryOut_130 rfl (fun r11 s12 h => ?_)
    exact g_iret B (ty := .int) rfl rfl (Nat.le_of_ble_eq_true rfl) (Nat.le_of_ble_eq_true rfl) dX12_carryOut_133 ⟨_, rfl, h⟩
  · have h := h.2.2.2.2.1 rfl
    refine g_tabIn (tgt := 134) B.1 dX12_carryOut_8 (by decide) (by decide) rfl (by decide) ?_
    refine g_aload_n (np := 135) B.1 dX12_carryOut_134 rfl rfl ?_
    refine gf_Y_10_14 (np := 138) B.1 dX12_carryOut_135 rfl ?_
    refine g_iload_n (np := 139) B.1 dX12_carryOut_138 rfl rfl ?_
    refine gc_Y_453 (np := 142) B 0 (by decide : (0 : Nat) < 11) (oX10_changeMachines B.1.tr 0 (by decide : (0 : Nat) < 11) a2  _ _ _ h) (Nat.le_of_ble_eq_true rfl) (Nat.le_of_ble_eq_true rfl) (Nat.le_of_ble_eq_true rfl) (Nat.le_of_ble_eq_true rfl) (Nat.le_of_ble_eq_true rfl) dX12_carryOut_139 rfl (fun r13 s14 h => ?_)
    exact g_iret B (ty := .int) rfl rfl (Nat.le_of_ble_eq_true rfl) (Nat.le_of_ble_eq_true rfl) dX12_carryOut_142 ⟨_, rfl, h⟩
  · have h := h.2.2.2.2.2.1 rfl
    refine g_tabIn (tgt := 143) B.1 dX12_carryOut_8 (by decide) (by decide) rfl (by decide) ?_
    refine g_aload_n (np := 144) B.1 dX12_carryOut_143 rfl rfl ?_
    refine gf_Y_10_14 (np := 147) B.1 dX12_carryOut_144 rfl ?_
    refine g_aload_n (np := 148) B.1 dX12_carryOut_147 rfl rfl ?_
    refine gf_Y_10_14 (np := 151) B.1 dX12_carryOut_148 rfl ?_
    refine gf_Y_184_4 (np := 154) B.1 0 (by decide : (0 : Nat) < 11) dX12_carryOut_151 rfl ?_
    refine gf_Y_188_3 (np := 157) B.1 0 (by decide : (0 : Nat) < 11) dX12_carryOut_154 rfl ?_
    refine g_iload_n (np := 158) B.1 dX12_carryOut_157 rfl rfl ?_
    refine gc_Y_429 (np := 161) B 5 (by decide : (5 : Nat) < 112) (oX7_find B.1.tr 5 (by decide : (5 : Nat) < 112) a2  _ _ _ h) (Nat.le_of_ble_eq_true rfl) (Nat.le_of_ble_eq_true rfl) (Nat.le_of_ble_eq_true rfl) (Nat.le_of_ble_eq_true rfl) (Nat.le_of_ble_eq_true rfl) dX12_carryOut_158 rfl (fun r15 s16 h => ?_)
    refine gc_Y_456 (np := 164) B 0 (by decide : (0 : Nat) < 11) (oX10_spinAt B.1.tr 0 (by decide : (0 : Nat) < 11) r15  _ _ _ h) (Nat.le_of_ble_eq_true rfl) (Nat.le_of_ble_eq_true rfl) (Nat.le_of_ble_eq_true rfl) (Nat.le_of_ble_eq_true rfl) (Nat.le_of_ble_eq_true rfl) dX12_carryOut_161 rfl (fun r17 s18 h => ?_)
    exact g_iret B (ty := .int) rfl rfl (Nat.le_of_ble_eq_true rfl) (Nat.le_of_ble_eq_true rfl) dX12_carryOut_164 ⟨_, rfl, h⟩
  · have h := h.2.2.2.2.2.2.1 rfl
    refine g_tabIn (tgt := 165) B.1 dX12_carryOut_8 (by decide) (by decide) rfl (by decide) ?_
    refine g_aload_n (np := 166) B.1 dX12_carryOut_165 rfl rfl ?_
    refine gf_Y_10_14 (np := 169) B.1 dX12_carryOut_166 rfl ?_
    refine g_iload_n (np := 170) B.1 dX12_carryOut_169 rfl rfl ?_
    refine gc_Y_459 (np := 173) B 0 (by decide : (0 : Nat) < 11) (oX10_spliceAt B.1.tr 0 (by decide : (0 : Nat) < 11) a2  _ _ _ h) (Nat.le_of_ble_eq_true rfl) (Nat.le_of_ble_eq_true rfl) (Nat.le_of_ble_eq_true rfl) (Nat.le_of_ble_eq_true rfl) (Nat.le_of_ble_eq_true rfl) dX12_carryOut_170 rfl (fun r19 s20 h => ?_)
    exact g_iret B (ty := .int) rfl rfl (Nat.le_of_ble_eq_true rfl) (Nat.le_of_ble_eq_true rfl) dX12_carryOut_173 ⟨_, rfl, h⟩
  · have h := h.2.2.2.2.2.2.2.1 rfl
    refine g_tabIn (tgt := 174) B.1 dX12_carryOut_8 (by decide) (by decide) rfl (by decide) ?_
    refine g_aload_n (np := 175) B.1 dX12_carryOut_174 rfl rfl ?_
    refine gf_Y_10_14 (np := 178) B.1 dX12_carryOut_175 rfl ?_
    refine g_aload_n (np := 179) B.1 dX12_carryOut_178 rfl rfl ?_
    refine gf_Y_46_14 (np := 182) B.1 dX12_carryOut_179 rfl ?_
    refine g_aload_n (np := 183) B.1 dX12_carryOut_182 rfl rfl ?_
    refine gf_Y_10_14 (np := 186) B.1 dX12_carryOut_183 rfl ?_
    refine gf_Y_229_4 (np := 189) B.1 0 (by decide : (0 : Nat) < 11) dX12_carryOut_186 rfl ?_
    refine gc_Y_243 (np := 192) B   (oX9_costByTable B.1.tr     _ _ _ h) (Nat.le_of_ble_eq_true rfl) (Nat.le_of_ble_eq_true rfl) (Nat.le_of_ble_eq_true rfl) (Nat.le_of_ble_eq_true rfl) (Nat.le_of_ble_eq_true rfl) dX12_carryOut_189 rfl (fun r21 s22 h => ?_)
    refine gc_Y_462 (np := 195) B 0 (by decide : (0 : Nat) < 11) (oX10_joinPieces B.1.tr 0 (by decide : (0 : Nat) < 11) r21  _ _ _ h) (Nat.le_of_ble_eq_true rfl) (Nat.le_of_ble_eq_true rfl) (Nat.le_of_ble_eq_true rfl) (Nat.le_of_ble_eq_true rfl) (Nat.le_of_ble_eq_true rfl) dX12_carryOut_192 rfl (fun r23 s24 h => ?_)
    exact g_iret B (ty := .int) rfl rfl (Nat.le_of_ble_eq_true rfl) (Nat.le_of_ble_eq_true rfl) dX12_carryOut_195 ⟨_, rfl, h⟩
  · have h := h.2.2.2.2.2.2.2.2 rfl
    refine g_tabIn (tgt := 196) B.1 dX12_carryOut_8 (by decide) (by decide) rfl (by decide) ?_
    refine g_aload_n (np := 197) B.1 dX12_carryOut_196 rfl rfl ?_
    refine gf_Y_10_14 (np := 200) B.1 dX12_carryOut_197 rfl ?_
    refine g_iload_n (np := 201) B.1 dX12_carryOut_200 rfl rfl ?_
    refine gc_Y_465 (np := 204) B 0 (by decide : (0 : Nat) < 11) (oX10_sellAt B.1.tr 0 (by decide : (0 : Nat) < 11) a2  _ _ _ h) (Nat.le_of_ble_eq_true rfl) (Nat.le_of_ble_eq_true rfl) (Nat.le_of_ble_eq_true rfl) (Nat.le_of_ble_eq_true rfl) (Nat.le_of_ble_eq_true rfl) dX12_carryOut_201 rfl (fun r25 s26 h => ?_)
    exact g_iret B (ty := .int) rfl rfl (Nat.le_of_ble_eq_true rfl) (Nat.le_of_ble_eq_true rfl) dX12_carryOut_204 ⟨_, rfl, h⟩
def wX12_change  (a1 : Nat) (a2 : Int32) (a3 : Int32) (a4 : Int32) (s0 : Mem) (Q : Int32 → Mem → Prop) (E : String → Mem → Prop) : Prop := wX12_refusalOf  a1 a2 a3 a4 s0 (fun (r1 : Nat) (s2 : Mem) => wX12_throwFor  r1 s2 (fun (s4 : Mem) => wX4_record 0  s4 (fun (s6 : Mem) => wX12_carryOut  a1 a2 a3 a4 s6 (fun (r7 : Int32) (s8 : Mem) => Q r7 s8) E) E) E) E
set_option maxRecDepth 20000 in
set_option maxHeartbeats 4000000 in
theorem oX12_change {l : Launch} {x : Ctx} (hl : l.stackTraces = false)   (a1 : Nat) (a2 : Int32) (a3 : Int32) (a4 : Int32) (ha1 : a1 < 9) (s0 : Mem) (Q : Int32 → Mem → Prop) (E : String → Mem → Prop) (h : wX12_change  a1 a2 a3 a4 s0 Q E) : MetG l x yX12_change cX12_change 5 (some .int) 7 145 1 6 [.ref (xad x 14 0), .ref (xen x 0 a1), .int a2, .int a3, .int a4] s0 (RI Q) E := by
  refine MetG.of hl (by decide) (Nat.le_of_ble_eq_true rfl) [some (.ref (xad x 14 0)), some (.ref (xen x 0 a1)), some (.int a2), some (.int a3), some (.int a4)] rfl (fun K B hx _ => ?_)
  subst hx
  unfold wX12_change at h
  refine g_aload_n (np := 1) B.1 dX12_change_0 rfl rfl ?_
  refine g_aload_n (np := 2) B.1 dX12_change_1 rfl rfl ?_
  refine g_iload_n (np := 3) B.1 dX12_change_2 rfl rfl ?_
  refine g_iload_n (np := 4) B.1 dX12_change_3 rfl rfl ?_
  refine g_iload (np := 6) B.1 dX12_change_4 rfl rfl ?_
  refine gc_Y_373 (np := 9) B   (oX12_refusalOf B.1.tr   a1 a2 a3 a4 ha1 _ _ _ h) (Nat.le_of_ble_eq_true rfl) (Nat.le_of_ble_eq_true rfl) (Nat.le_of_ble_eq_true rfl) (Nat.le_of_ble_eq_true rfl) (Nat.le_of_ble_eq_true rfl) dX12_change_6 rfl (fun r1 hr1 s2 h => ?_)
  refine gc_Y_377 (np := 12) B   (oX12_throwFor B.1.tr   r1 hr1 _ _ _ h) (Nat.le_of_ble_eq_true rfl) (Nat.le_of_ble_eq_true rfl) (Nat.le_of_ble_eq_true rfl) (Nat.le_of_ble_eq_true rfl) (Nat.le_of_ble_eq_true rfl) dX12_change_9 rfl (fun s4 h => ?_)
  refine g_aload_n (np := 13) B.1 dX12_change_12 rfl rfl ?_
  refine gf_Y_25_14 (np := 16) B.1 dX12_change_13 rfl ?_
  refine g_aload_n (np := 17) B.1 dX12_change_16 rfl rfl ?_
  refine gf_Y_10_14 (np := 20) B.1 dX12_change_17 rfl ?_
  refine gc_Y_348 (np := 23) B 0 (by decide : (0 : Nat) < 11) (oX4_record B.1.tr 0 (by decide : (0 : Nat) < 11)   _ _ _ h) (Nat.le_of_ble_eq_true rfl) (Nat.le_of_ble_eq_true rfl) (Nat.le_of_ble_eq_true rfl) (Nat.le_of_ble_eq_true rfl) (Nat.le_of_ble_eq_true rfl) dX12_change_20 rfl (fun s6 h => ?_)
  refine g_aload_n (np := 24) B.1 dX12_change_23 rfl rfl ?_
  refine g_aload_n (np := 25) B.1 dX12_change_24 rfl rfl ?_
  refine g_iload_n (np := 26) B.1 dX12_change_25 rfl rfl ?_
  refine g_iload_n (np := 27) B.1 dX12_change_26 rfl rfl ?_
  refine g_iload (np := 29) B.1 dX12_change_27 rfl rfl ?_
  refine gc_Y_381 (np := 32) B   (oX12_carryOut B.1.tr   a1 a2 a3 a4 ha1 _ _ _ h) (Nat.le_of_ble_eq_true rfl) (Nat.le_of_ble_eq_true rfl) (Nat.le_of_ble_eq_true rfl) (Nat.le_of_ble_eq_true rfl) (Nat.le_of_ble_eq_true rfl) dX12_change_29 rfl (fun r7 s8 h => ?_)
  exact g_iret B (ty := .int) rfl rfl (Nat.le_of_ble_eq_true rfl) (Nat.le_of_ble_eq_true rfl) dX12_change_32 ⟨_, rfl, h⟩
def wX12_positionOfBale  (a1 : Int32) (s0 : Mem) (Q : Int32 → Mem → Prop) (E : String → Mem → Prop) : Prop := wX7_find 0 a1 s0 (fun (r1 : Int32) (s2 : Mem) => ((¬ r1 = (-1) → Q r1 s2) ∧ (r1 = (-1) → E "java/util/NoSuchElementException" s2))) E
set_option maxRecDepth 20000 in
set_option maxHeartbeats 4000000 in
theorem oX12_positionOfBale {l : Launch} {x : Ctx} (hl : l.stackTraces = false)   (a1 : Int32)  (s0 : Mem) (Q : Int32 → Mem → Prop) (E : String → Mem → Prop) (h : wX12_positionOfBale  a1 s0 Q E) : MetG l x yX12_positionOfBale cX12_positionOfBale 3 (some .int) 6 82 1 6 [.ref (xad x 14 0), .int a1] s0 (RI Q) E := by
  refine MetG.of hl (by decide) (Nat.le_of_ble_eq_true rfl) [some (.ref (xad x 14 0)), some (.int a1), none] rfl (fun K B hx _ => ?_)
  subst hx
  unfold wX12_positionOfBale at h
  refine g_aload_n (np := 1) B.1 dX12_positionOfBale_0 rfl rfl ?_
  refine gf_Y_10_14 (np := 4) B.1 dX12_positionOfBale_1 rfl ?_
  refine gf_Y_114_4 (np := 7) B.1 0 (by decide : (0 : Nat) < 11) dX12_positionOfBale_4 rfl ?_
  refine gf_Y_118_2 (np := 10) B.1 0 (by decide : (0 : Nat) < 11) dX12_positionOfBale_7 rfl ?_
  refine g_iload_n (np := 11) B.1 dX12_positionOfBale_10 rfl rfl ?_
  refine gc_Y_429 (np := 14) B 0 (by decide : (0 : Nat) < 112) (oX7_find B.1.tr 0 (by decide : (0 : Nat) < 112) a1  _ _ _ h) (Nat.le_of_ble_eq_true rfl) (Nat.le_of_ble_eq_true rfl) (Nat.le_of_ble_eq_true rfl) (Nat.le_of_ble_eq_true rfl) (Nat.le_of_ble_eq_true rfl) dX12_positionOfBale_11 rfl (fun r1 s2 h => ?_)
  refine g_istore_n (np := 15) (lv' := [some (.ref (xad (fX K) 14 0)), some (.int a1), some (.int r1)]) B.1 dX12_positionOfBale_14 (by decide) rfl rfl rfl ?_
  refine g_iload_n (np := 16) B.1 dX12_positionOfBale_15 rfl rfl ?_
  refine g_iconst (np := 17) (v := (-1)) B.1 dX12_positionOfBale_16 (by decide) rfl ?_
  refine g_icmp_ne (np := 20) (tgt := 31) B.1 dX12_positionOfBale_17 (by decide) rfl (fun q => ?_) (fun q => ?_)
  · replace h := h.1 q
    refine g_iload_n (np := 32) B.1 dX12_positionOfBale_31 rfl rfl ?_
    exact g_iret B (ty := .int) rfl rfl (Nat.le_of_ble_eq_true rfl) (Nat.le_of_ble_eq_true rfl) dX12_positionOfBale_32 ⟨_, rfl, h⟩
  · replace h := h.2 q
    exact g_throwNW B (text := "there is no such bale") b_662 b_51 (by decide +kernel) dX12_positionOfBale_20 dX12_positionOfBale_23 dX12_positionOfBale_24 dX12_positionOfBale_27 dX12_positionOfBale_30 (Nat.le_of_ble_eq_true rfl) (Nat.le_of_ble_eq_true rfl) (Nat.le_of_ble_eq_true rfl) (Nat.le_of_ble_eq_true rfl) h
def wX12_positionOfOrder  (a1 : Int32) (s0 : Mem) (Q : Int32 → Mem → Prop) (E : String → Mem → Prop) : Prop := wX7_find 5 a1 s0 (fun (r1 : Int32) (s2 : Mem) => ((¬ r1 = (-1) → Q r1 s2) ∧ (r1 = (-1) → E "java/util/NoSuchElementException" s2))) E
set_option maxRecDepth 20000 in
set_option maxHeartbeats 4000000 in
theorem oX12_positionOfOrder {l : Launch} {x : Ctx} (hl : l.stackTraces = false)   (a1 : Int32)  (s0 : Mem) (Q : Int32 → Mem → Prop) (E : String → Mem → Prop) (h : wX12_positionOfOrder  a1 s0 Q E) : MetG l x yX12_positionOfOrder cX12_positionOfOrder 3 (some .int) 6 82 1 6 [.ref (xad x 14 0), .int a1] s0 (RI Q) E := by
  refine MetG.of hl (by decide) (Nat.le_of_ble_eq_true rfl) [some (.ref (xad x 14 0)), some (.int a1), none] rfl (fun K B hx _ => ?_)
  subst hx
  unfold wX12_positionOfOrder at h
  refine g_aload_n (np := 1) B.1 dX12_positionOfOrder_0 rfl rfl ?_
  refine gf_Y_10_14 (np := 4) B.1 dX12_positionOfOrder_1 rfl ?_
  refine gf_Y_184_4 (np := 7) B.1 0 (by decide : (0 : Nat) < 11) dX12_positionOfOrder_4 rfl ?_
  refine gf_Y_188_3 (np := 10) B.1 0 (by decide : (0 : Nat) < 11) dX12_positionOfOrder_7 rfl ?_
  refine g_iload_n (np := 11) B.1 dX12_positionOfOrder_10 rfl rfl ?_
  refine gc_Y_429 (np := 14) B 5 (by decide : (5 : Nat) < 112) (oX7_find B.1.tr 5 (by decide : (5 : Nat) < 112) a1  _ _ _ h) (Nat.le_of_ble_eq_true rfl) (Nat.le_of_ble_eq_true rfl) (Nat.le_of_ble_eq_true rfl) (Nat.le_of_ble_eq_true rfl) (Nat.le_of_ble_eq_true rfl) dX12_positionOfOrder_11 rfl (fun r1 s2 h => ?_)
  refine g_istore_n (np := 15) (lv' := [some (.ref (xad (fX K) 14 0)), some (.int a1), some (.int r1)]) B.1 dX12_positionOfOrder_14 (by decide) rfl rfl rfl ?_
  refine g_iload_n (np := 16) B.1 dX12_positionOfOrder_15 rfl rfl ?_
  refine g_iconst (np := 17) (v := (-1)) B.1 dX12_positionOfOrder_16 (by decide) rfl ?_
  refine g_icmp_ne (np := 20) (tgt := 31) B.1 dX12_positionOfOrder_17 (by decide) rfl (fun q => ?_) (fun q => ?_)
  · replace h := h.1 q
    refine g_iload_n (np := 32) B.1 dX12_positionOfOrder_31 rfl rfl ?_
    exact g_iret B (ty := .int) rfl rfl (Nat.le_of_ble_eq_true rfl) (Nat.le_of_ble_eq_true rfl) dX12_positionOfOrder_32 ⟨_, rfl, h⟩
  · replace h := h.2 q
    exact g_throwNW B (text := "there is no such open order") b_662 b_51 (by decide +kernel) dX12_positionOfOrder_20 dX12_positionOfOrder_23 dX12_positionOfOrder_24 dX12_positionOfOrder_27 dX12_positionOfOrder_30 (Nat.le_of_ble_eq_true rfl) (Nat.le_of_ble_eq_true rfl) (Nat.le_of_ble_eq_true rfl) (Nat.le_of_ble_eq_true rfl) h
def wX12_positionAtRank (k : Nat) (a2 : Int32) (s0 : Mem) (Q : Int32 → Mem → Prop) (E : String → Mem → Prop) : Prop := wX7_findRank k a2 s0 (fun (r1 : Int32) (s2 : Mem) => ((¬ r1 = (-1) → Q r1 s2) ∧ (r1 = (-1) → E "java/util/NoSuchElementException" s2))) E
set_option maxRecDepth 20000 in
set_option maxHeartbeats 4000000 in
theorem oX12_positionAtRank {l : Launch} {x : Ctx} (hl : l.stackTraces = false) (k : Nat) (hk : k < 112) (a2 : Int32)  (s0 : Mem) (Q : Int32 → Mem → Prop) (E : String → Mem → Prop) (h : wX12_positionAtRank k a2 s0 Q E) : MetG l x yX12_positionAtRank cX12_positionAtRank 3 (some .int) 6 82 1 6 [.ref (xad x 0 k), .int a2] s0 (RI Q) E := by
  refine MetG.of hl (by decide) (Nat.le_of_ble_eq_true rfl) [some (.ref (xad x 0 k)), some (.int a2), none] rfl (fun K B hx _ => ?_)
  subst hx
  unfold wX12_positionAtRank at h
  refine g_aload_n (np := 1) B.1 dX12_positionAtRank_0 rfl rfl ?_
  refine g_iload_n (np := 2) B.1 dX12_positionAtRank_1 rfl rfl ?_
  refine gc_Y_483 (np := 5) B k hk (oX7_findRank B.1.tr k hk a2  _ _ _ h) (Nat.le_of_ble_eq_true rfl) (Nat.le_of_ble_eq_true rfl) (Nat.le_of_ble_eq_true rfl) (Nat.le_of_ble_eq_true rfl) (Nat.le_of_ble_eq_true rfl) dX12_positionAtRank_2 rfl (fun r1 s2 h => ?_)
  refine g_istore_n (np := 6) (lv' := [some (.ref (xad (fX K) 0 k)), some (.int a2), some (.int r1)]) B.1 dX12_positionAtRank_5 (by decide) rfl rfl rfl ?_
  refine g_iload_n (np := 7) B.1 dX12_positionAtRank_6 rfl rfl ?_
  refine g_iconst (np := 8) (v := (-1)) B.1 dX12_positionAtRank_7 (by decide) rfl ?_
  refine g_icmp_ne (np := 11) (tgt := 22) B.1 dX12_positionAtRank_8 (by decide) rfl (fun q => ?_) (fun q => ?_)
  · replace h := h.1 q
    refine g_iload_n (np := 23) B.1 dX12_positionAtRank_22 rfl rfl ?_
    exact g_iret B (ty := .int) rfl rfl (Nat.le_of_ble_eq_true rfl) (Nat.le_of_ble_eq_true rfl) dX12_positionAtRank_23 ⟨_, rfl, h⟩
  · replace h := h.2 q
    exact g_throwNW B (text := "there is no such rank") b_662 b_51 (by decide +kernel) dX12_positionAtRank_11 dX12_positionAtRank_14 dX12_positionAtRank_15 dX12_positionAtRank_18 dX12_positionAtRank_21 (Nat.le_of_ble_eq_true rfl) (Nat.le_of_ble_eq_true rfl) (Nat.le_of_ble_eq_true rfl) (Nat.le_of_ble_eq_true rfl) h
def wX12_testPiece  (a1 : Int32) (s0 : Mem) (Q : Mem → Prop) (E : String → Mem → Prop) : Prop := wX7_has 9 a1 s0 (fun (r1 : Int32) (s2 : Mem) => ((¬ r1 = 0 → Q s2) ∧ (r1 = 0 → E "java/lang/IndexOutOfBoundsException" s2))) E
set_option maxRecDepth 20000 in
set_option maxHeartbeats 4000000 in
theorem oX12_testPiece {l : Launch} {x : Ctx} (hl : l.stackTraces = false)   (a1 : Int32)  (s0 : Mem) (Q : Mem → Prop) (E : String → Mem → Prop) (h : wX12_testPiece  a1 s0 Q E) : MetG l x yX12_testPiece cX12_testPiece 2 none 6 82 1 6 [.ref (xad x 14 0), .int a1] s0 (RV Q) E := by
  refine MetG.of hl (by decide) (Nat.le_of_ble_eq_true rfl) [some (.ref (xad x 14 0)), some (.int a1)] rfl (fun K B hx _ => ?_)
  subst hx
  unfold wX12_testPiece at h
  refine g_aload_n (np := 1) B.1 dX12_testPiece_0 rfl rfl ?_
  refine gf_Y_10_14 (np := 4) B.1 dX12_testPiece_1 rfl ?_
  refine gf_Y_229_4 (np := 7) B.1 0 (by decide : (0 : Nat) < 11) dX12_testPiece_4 rfl ?_
  refine g_iload_n (np := 8) B.1 dX12_testPiece_7 rfl rfl ?_
  refine gc_Y_127 (np := 11) B 9 (by decide : (9 : Nat) < 112) (oX7_has B.1.tr 9 (by decide : (9 : Nat) < 112) a1  _ _ _ h) (Nat.le_of_ble_eq_true rfl) (Nat.le_of_ble_eq_true rfl) (Nat.le_of_ble_eq_true rfl) (Nat.le_of_ble_eq_true rfl) (Nat.le_of_ble_eq_true rfl) dX12_testPiece_8 rfl (fun r1 s2 h => ?_)
  refine g_if_ne (np := 14) (tgt := 25) B.1 dX12_testPiece_11 (by decide) rfl (fun q => ?_) (fun q => ?_)
  · replace h := h.1 q
    exact g_vret B rfl (Nat.le_of_ble_eq_true rfl) (Nat.le_of_ble_eq_true rfl) dX12_testPiece_25 ⟨rfl, h⟩
  · replace h := h.2 q
    exact g_throwW B (text := "there is no such position on the shelf") rfl (by decide +kernel) (by decide +kernel) b_678 b_52 (by decide +kernel) at_309 at_309g dX12_testPiece_14 dX12_testPiece_17 dX12_testPiece_18 dX12_testPiece_21 dX12_testPiece_24 (by decide) (Nat.le_of_ble_eq_true rfl) (Nat.le_of_ble_eq_true rfl) (Nat.le_of_ble_eq_true rfl) h
def wX12_testBlend  (a1 : Int32) (a2 : Int32) (s0 : Mem) (Q : Mem → Prop) (E : String → Mem → Prop) : Prop := wX12_canBeBlend  a1 a2 s0 (fun (r1 : Int32) (s2 : Mem) => ((¬ r1 = 0 → Q s2) ∧ (r1 = 0 → E "java/lang/IllegalArgumentException" s2))) E
set_option maxRecDepth 20000 in
set_option maxHeartbeats 4000000 in
theorem oX12_testBlend {l : Launch} {x : Ctx} (hl : l.stackTraces = false)   (a1 : Int32) (a2 : Int32)  (s0 : Mem) (Q : Mem → Prop) (E : String → Mem → Prop) (h : wX12_testBlend  a1 a2 s0 Q E) : MetG l x yX12_testBlend cX12_testBlend 2 none 6 82 1 6 [.int a1, .int a2] s0 (RV Q) E := by
  refine MetG.of hl (by decide) (Nat.le_of_ble_eq_true rfl) [some (.int a1), some (.int a2)] rfl (fun K B hx _ => ?_)
  subst hx
  unfold wX12_testBlend at h
  refine g_iload_n (np := 1) B.1 dX12_testBlend_0 rfl rfl ?_
  refine g_iload_n (np := 2) B.1 dX12_testBlend_1 rfl rfl ?_
  refine gc_Y_468 (np := 5) B   (oX12_canBeBlend B.1.tr   a1 a2  _ _ _ h) (Nat.le_of_ble_eq_true rfl) (Nat.le_of_ble_eq_true rfl) (Nat.le_of_ble_eq_true rfl) (Nat.le_of_ble_eq_true rfl) (Nat.le_of_ble_eq_true rfl) dX12_testBlend_2 rfl (fun r1 s2 h => ?_)
  refine g_if_ne (np := 8) (tgt := 19) B.1 dX12_testBlend_5 (by decide) rfl (fun q => ?_) (fun q => ?_)
  · replace h := h.1 q
    exact g_vret B rfl (Nat.le_of_ble_eq_true rfl) (Nat.le_of_ble_eq_true rfl) dX12_testBlend_19 ⟨rfl, h⟩
  · replace h := h.2 q
    exact g_throwW B (text := "the need or the staple is out of its range") rfl (by decide +kernel) (by decide +kernel) b_627 b_48 (by decide +kernel) at_318 at_318g dX12_testBlend_8 dX12_testBlend_11 dX12_testBlend_12 dX12_testBlend_15 dX12_testBlend_18 (by decide) (Nat.le_of_ble_eq_true rfl) (Nat.le_of_ble_eq_true rfl) (Nat.le_of_ble_eq_true rfl) h
def wX12_blendValueFound  (a1 : Int32) (s0 : Mem) (Q : Int32 → Mem → Prop) (E : String → Mem → Prop) : Prop := ((¬ a1 = (-1) → Q a1 s0) ∧ (a1 = (-1) → E "java/util/NoSuchElementException" s0))
set_option maxRecDepth 20000 in
set_option maxHeartbeats 4000000 in
theorem oX12_blendValueFound {l : Launch} {x : Ctx} (hl : l.stackTraces = false)   (a1 : Int32)  (s0 : Mem) (Q : Int32 → Mem → Prop) (E : String → Mem → Prop) (h : wX12_blendValueFound  a1 s0 Q E) : MetG l x yX12_blendValueFound cX12_blendValueFound 1 (some .int) 6 82 1 6 [.int a1] s0 (RI Q) E := by
  refine MetG.of hl (by decide) (Nat.le_of_ble_eq_true rfl) [some (.int a1)] rfl (fun K B hx _ => ?_)
  subst hx
  unfold wX12_blendValueFound at h
  refine g_iload_n (np := 1) B.1 dX12_blendValueFound_0 rfl rfl ?_
  refine g_iconst (np := 2) (v := (-1)) B.1 dX12_blendValueFound_1 (by decide) rfl ?_
  refine g_icmp_ne (np := 5) (tgt := 15) B.1 dX12_blendValueFound_2 (by decide) rfl (fun q => ?_) (fun q => ?_)
  · replace h := h.1 q
    refine g_iload_n (np := 16) B.1 dX12_blendValueFound_15 rfl rfl ?_
    exact g_iret B (ty := .int) rfl rfl (Nat.le_of_ble_eq_true rfl) (Nat.le_of_ble_eq_true rfl) dX12_blendValueFound_16 ⟨_, rfl, h⟩
  · replace h := h.2 q
    exact g_throwN B (text := "there is no such blend") b_662 b_51 (by decide +kernel) dX12_blendValueFound_5 dX12_blendValueFound_8 dX12_blendValueFound_9 dX12_blendValueFound_11 dX12_blendValueFound_14 (Nat.le_of_ble_eq_true rfl) (Nat.le_of_ble_eq_true rfl) (Nat.le_of_ble_eq_true rfl) (Nat.le_of_ble_eq_true rfl) h
def wX12_blendWaysAgree  (a1 : Int32) (a2 : Int32) (s0 : Mem) (Q : Int32 → Mem → Prop) (E : String → Mem → Prop) : Prop := wX2_valueByAllSets  a1 a2 s0 (fun (r1 : Int32) (s2 : Mem) => wX2_valueBySearch  a1 a2 s2 (fun (r3 : Int32) (s4 : Mem) => ((¬ r1 = r3 → Q 0 s4) ∧ (r1 = r3 → Q 1 s4))) E) E
set_option maxRecDepth 20000 in
set_option maxHeartbeats 4000000 in
theorem oX12_blendWaysAgree {l : Launch} {x : Ctx} (hl : l.stackTraces = false)   (a1 : Int32) (a2 : Int32)  (s0 : Mem) (Q : Int32 → Mem → Prop) (E : String → Mem → Prop) (h : wX12_blendWaysAgree  a1 a2 s0 Q E) : MetG l x yX12_blendWaysAgree cX12_blendWaysAgree 3 (some .boolean) 15 382 0 0 [.ref (xad x 14 0), .int a1, .int a2] s0 (RI Q) E := by
  refine MetG.of hl (by decide) (Nat.le_of_ble_eq_true rfl) [some (.ref (xad x 14 0)), some (.int a1), some (.int a2)] rfl (fun K B hx _ => ?_)
  subst hx
  unfold wX12_blendWaysAgree at h
  refine g_aload_n (np := 1) B.1 dX12_blendWaysAgree_0 rfl rfl ?_
  refine gf_Y_32_14 (np := 4) B.1 dX12_blendWaysAgree_1 rfl ?_
  refine g_aload_n (np := 5) B.1 dX12_blendWaysAgree_4 rfl rfl ?_
  refine gf_Y_10_14 (np := 8) B.1 dX12_blendWaysAgree_5 rfl ?_
  refine gf_Y_114_4 (np := 11) B.1 0 (by decide : (0 : Nat) < 11) dX12_blendWaysAgree_8 rfl ?_
  refine g_iload_n (np := 12) B.1 dX12_blendWaysAgree_11 rfl rfl ?_
  refine g_iload_n (np := 13) B.1 dX12_blendWaysAgree_12 rfl rfl ?_
  refine gc_Y_166 (np := 16) B   (oX2_valueByAllSets B.1.tr   a1 a2  _ _ _ h) (Nat.le_of_ble_eq_true rfl) (Nat.le_of_ble_eq_true rfl) (Nat.le_of_ble_eq_true rfl) (Nat.le_of_ble_eq_true rfl) (Nat.le_of_ble_eq_true rfl) dX12_blendWaysAgree_13 rfl (fun r1 s2 h => ?_)
  refine g_aload_n (np := 17) B.1 dX12_blendWaysAgree_16 rfl rfl ?_
  refine gf_Y_32_14 (np := 20) B.1 dX12_blendWaysAgree_17 rfl ?_
  refine g_aload_n (np := 21) B.1 dX12_blendWaysAgree_20 rfl rfl ?_
  refine gf_Y_10_14 (np := 24) B.1 dX12_blendWaysAgree_21 rfl ?_
  refine gf_Y_114_4 (np := 27) B.1 0 (by decide : (0 : Nat) < 11) dX12_blendWaysAgree_24 rfl ?_
  refine g_iload_n (np := 28) B.1 dX12_blendWaysAgree_27 rfl rfl ?_
  refine g_iload_n (np := 29) B.1 dX12_blendWaysAgree_28 rfl rfl ?_
  refine gc_Y_173 (np := 32) B   (oX2_valueBySearch B.1.tr   a1 a2  _ _ _ h) (Nat.le_of_ble_eq_true rfl) (Nat.le_of_ble_eq_true rfl) (Nat.le_of_ble_eq_true rfl) (Nat.le_of_ble_eq_true rfl) (Nat.le_of_ble_eq_true rfl) dX12_blendWaysAgree_29 rfl (fun r3 s4 h => ?_)
  refine g_icmp_ne (np := 35) (tgt := 39) B.1 dX12_blendWaysAgree_32 (by decide) rfl (fun q => ?_) (fun q => ?_)
  · replace h := h.1 q
    refine g_iconst (np := 40) (v := 0) B.1 dX12_blendWaysAgree_39 (by decide) rfl ?_
    exact g_iret B (ty := .boolean) rfl (by decide) (Nat.le_of_ble_eq_true rfl) (Nat.le_of_ble_eq_true rfl) dX12_blendWaysAgree_40 ⟨_, rfl, h⟩
  · replace h := h.2 q
    refine g_iconst (np := 36) (v := 1) B.1 dX12_blendWaysAgree_35 (by decide) rfl ?_
    refine g_goto (tgt := 40) B.1 dX12_blendWaysAgree_36 (by decide) ?_
    exact g_iret B (ty := .boolean) rfl (by decide) (Nat.le_of_ble_eq_true rfl) (Nat.le_of_ble_eq_true rfl) dX12_blendWaysAgree_40 ⟨_, rfl, h⟩
