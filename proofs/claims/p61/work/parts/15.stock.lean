def wX10_refusalOfBuying (k : Nat) (a1 : Int32) (a2 : Int32) (a3 : Int32) (s0 : Mem) (Q : Nat → Mem → Prop) (E : String → Mem → Prop) : Prop := wX12_isBetween  a1 1 50 s0 (fun (r1 : Int32) (s2 : Mem) => ((r1 = 0 → Q 1 s2) ∧ (¬ r1 = 0 → wX12_isBetween  a2 10 60 s2 (fun (r3 : Int32) (s4 : Mem) => ((r3 = 0 → Q 1 s4) ∧ (¬ r3 = 0 → wX12_isBetween  a3 1 20 s4 (fun (r5 : Int32) (s6 : Mem) => ((¬ r5 = 0 → wX7_isFull (10 * k + 0)  s6 (fun (r7 : Int32) (s8 : Mem) => ((r7 = 0 → ((a1 * a3 ≤ rd s8 4 k 6 → Q 0 s8) ∧ (¬ a1 * a3 ≤ rd s8 4 k 6 → Q 3 s8))) ∧ (¬ r7 = 0 → Q 2 s8))) E) ∧ (r5 = 0 → Q 1 s6))) E))) E))) E
set_option maxRecDepth 20000 in
set_option maxHeartbeats 4000000 in
theorem oX10_refusalOfBuying {l : Launch} {x : Ctx} (hl : l.stackTraces = false) (k : Nat) (hk : k < 11) (a1 : Int32) (a2 : Int32) (a3 : Int32)  (s0 : Mem) (Q : Nat → Mem → Prop) (E : String → Mem → Prop) (h : wX10_refusalOfBuying k a1 a2 a3 s0 Q E) : MetG l x yX10_refusalOfBuying cX10_refusalOfBuying 4 (some (.object "YarnMill$Refusal")) 1 22 0 0 [.ref (xad x 4 k), .int a1, .int a2, .int a3] s0 (RE x Q) E := by
  refine MetG.of hl (by decide) (Nat.le_of_ble_eq_true rfl) [some (.ref (xad x 4 k)), some (.int a1), some (.int a2), some (.int a3)] rfl (fun K B hx _ => ?_)
  subst hx
  unfold wX10_refusalOfBuying at h
  refine g_iload_n (np := 1) B.1 dX10_refusalOfBuying_0 rfl rfl ?_
  refine g_iconst (np := 2) (v := 1) B.1 dX10_refusalOfBuying_1 (by decide) rfl ?_
  refine g_bipush (np := 4) (v := 50) B.1 dX10_refusalOfBuying_2 (by decide) rfl ?_
  refine gc_YStock_41 (np := 7) B   (oX12_isBetween B.1.tr   a1 1 50  _ _ _ (noE_X12_isBetween h)) (Nat.le_of_ble_eq_true rfl) (Nat.le_of_ble_eq_true rfl) (Nat.le_of_ble_eq_true rfl) (Nat.le_of_ble_eq_true rfl) (Nat.le_of_ble_eq_true rfl) dX10_refusalOfBuying_4 rfl (fun r1 s2 h => ?_)
  refine g_if_eq (np := 10) (tgt := 31) B.1 dX10_refusalOfBuying_7 (by decide) rfl (fun q => ?_) (fun q => ?_)
  · replace h := h.1 q
    refine g_getRef (np := 34) B.1 1 (by decide) b_537 dX10_refusalOfBuying_31 rfl ?_
    exact g_aret B rfl (Or.inl ⟨_, rfl⟩) (Or.inr ⟨_, rfl⟩) (Nat.le_of_ble_eq_true rfl) (Nat.le_of_ble_eq_true rfl) dX10_refusalOfBuying_34 ⟨_, rfl, (by decide), h⟩
  · replace h := h.2 q
    refine g_iload_n (np := 11) B.1 dX10_refusalOfBuying_10 rfl rfl ?_
    refine g_bipush (np := 13) (v := 10) B.1 dX10_refusalOfBuying_11 (by decide) rfl ?_
    refine g_bipush (np := 15) (v := 60) B.1 dX10_refusalOfBuying_13 (by decide) rfl ?_
    refine gc_YStock_41 (np := 18) B   (oX12_isBetween B.1.tr   a2 10 60  _ _ _ (noE_X12_isBetween h)) (Nat.le_of_ble_eq_true rfl) (Nat.le_of_ble_eq_true rfl) (Nat.le_of_ble_eq_true rfl) (Nat.le_of_ble_eq_true rfl) (Nat.le_of_ble_eq_true rfl) dX10_refusalOfBuying_15 rfl (fun r3 s4 h => ?_)
    refine g_if_eq (np := 21) (tgt := 31) B.1 dX10_refusalOfBuying_18 (by decide) rfl (fun q => ?_) (fun q => ?_)
    · replace h := h.1 q
      refine g_getRef (np := 34) B.1 1 (by decide) b_537 dX10_refusalOfBuying_31 rfl ?_
      exact g_aret B rfl (Or.inl ⟨_, rfl⟩) (Or.inr ⟨_, rfl⟩) (Nat.le_of_ble_eq_true rfl) (Nat.le_of_ble_eq_true rfl) dX10_refusalOfBuying_34 ⟨_, rfl, (by decide), h⟩
    · replace h := h.2 q
      refine g_iload_n (np := 22) B.1 dX10_refusalOfBuying_21 rfl rfl ?_
      refine g_iconst (np := 23) (v := 1) B.1 dX10_refusalOfBuying_22 (by decide) rfl ?_
      refine g_bipush (np := 25) (v := 20) B.1 dX10_refusalOfBuying_23 (by decide) rfl ?_
      refine gc_YStock_41 (np := 28) B   (oX12_isBetween B.1.tr   a3 1 20  _ _ _ (noE_X12_isBetween h)) (Nat.le_of_ble_eq_true rfl) (Nat.le_of_ble_eq_true rfl) (Nat.le_of_ble_eq_true rfl) (Nat.le_of_ble_eq_true rfl) (Nat.le_of_ble_eq_true rfl) dX10_refusalOfBuying_25 rfl (fun r5 s6 h => ?_)
      refine g_if_ne (np := 31) (tgt := 35) B.1 dX10_refusalOfBuying_28 (by decide) rfl (fun q => ?_) (fun q => ?_)
      · replace h := h.1 q
        refine g_aload_n (np := 36) B.1 dX10_refusalOfBuying_35 rfl rfl ?_
        refine gf_YStock_12_4 (np := 39) B.1 k hk dX10_refusalOfBuying_36 rfl ?_
        refine gf_YStock_51_2 (np := 42) B.1 k hk dX10_refusalOfBuying_39 rfl ?_
        refine gc_YStock_54 (np := 45) B (10 * k + 0) (lt_row hk (by decide)) (oX7_isFull B.1.tr (10 * k + 0) (lt_row hk (by decide))   _ _ _ h) (Nat.le_of_ble_eq_true rfl) (Nat.le_of_ble_eq_true rfl) (Nat.le_of_ble_eq_true rfl) (Nat.le_of_ble_eq_true rfl) (Nat.le_of_ble_eq_true rfl) dX10_refusalOfBuying_42 rfl (fun r7 s8 h => ?_)
        refine g_if_eq (np := 48) (tgt := 52) B.1 dX10_refusalOfBuying_45 (by decide) rfl (fun q => ?_) (fun q => ?_)
        · replace h := h.1 q
          refine g_aload_n (np := 53) B.1 dX10_refusalOfBuying_52 rfl rfl ?_
          refine gf_YStock_38_4 (np := 56) B.1 k hk dX10_refusalOfBuying_53 rfl ?_
          refine g_iload_n (np := 57) B.1 dX10_refusalOfBuying_56 rfl rfl ?_
          refine g_iload_n (np := 58) B.1 dX10_refusalOfBuying_57 rfl rfl ?_
          refine g_imul (np := 59) B.1 dX10_refusalOfBuying_58 rfl ?_
          refine g_icmp_ge (np := 62) (tgt := 68) B.1 dX10_refusalOfBuying_59 (by decide) rfl (fun q => ?_) (fun q => ?_)
          · replace h := h.1 q
            refine g_getRef (np := 71) B.1 0 (by decide) b_547 dX10_refusalOfBuying_68 rfl ?_
            exact g_aret B rfl (Or.inl ⟨_, rfl⟩) (Or.inr ⟨_, rfl⟩) (Nat.le_of_ble_eq_true rfl) (Nat.le_of_ble_eq_true rfl) dX10_refusalOfBuying_71 ⟨_, rfl, (by decide), h⟩
          · replace h := h.2 q
            refine g_getRef (np := 65) B.1 3 (by decide) b_545 dX10_refusalOfBuying_62 rfl ?_
            refine g_goto (tgt := 71) B.1 dX10_refusalOfBuying_65 (by decide) ?_
            exact g_aret B rfl (Or.inl ⟨_, rfl⟩) (Or.inr ⟨_, rfl⟩) (Nat.le_of_ble_eq_true rfl) (Nat.le_of_ble_eq_true rfl) dX10_refusalOfBuying_71 ⟨_, rfl, (by decide), h⟩
        · replace h := h.2 q
          refine g_getRef (np := 51) B.1 2 (by decide) b_543 dX10_refusalOfBuying_48 rfl ?_
          exact g_aret B rfl (Or.inl ⟨_, rfl⟩) (Or.inr ⟨_, rfl⟩) (Nat.le_of_ble_eq_true rfl) (Nat.le_of_ble_eq_true rfl) dX10_refusalOfBuying_51 ⟨_, rfl, (by decide), h⟩
      · replace h := h.2 q
        refine g_getRef (np := 34) B.1 1 (by decide) b_537 dX10_refusalOfBuying_31 rfl ?_
        exact g_aret B rfl (Or.inl ⟨_, rfl⟩) (Or.inr ⟨_, rfl⟩) (Nat.le_of_ble_eq_true rfl) (Nat.le_of_ble_eq_true rfl) dX10_refusalOfBuying_34 ⟨_, rfl, (by decide), h⟩
def wX10_takeBale (k : Nat) (a1 : Int32) (a2 : Int32) (a3 : Int32) (s0 : Mem) (Q : Int32 → Mem → Prop) (E : String → Mem → Prop) : Prop := ∀ s1 : Mem, s1 = wr s0 4 k 6 ((rd s0 4 k 6) - (a1 * a3)) → ∀ s2 : Mem, s2 = wr s1 4 k 7 ((rd s1 4 k 7) + (a1 * a3)) → wX1_add k a1 a2 a3 s2 (fun (r3 : Int32) (s4 : Mem) => Q r3 s4) E
set_option maxRecDepth 20000 in
set_option maxHeartbeats 4000000 in
theorem oX10_takeBale {l : Launch} {x : Ctx} (hl : l.stackTraces = false) (k : Nat) (hk : k < 11) (a1 : Int32) (a2 : Int32) (a3 : Int32)  (s0 : Mem) (Q : Int32 → Mem → Prop) (E : String → Mem → Prop) (h : wX10_takeBale k a1 a2 a3 s0 Q E) : MetG l x yX10_takeBale cX10_takeBale 4 (some .int) 2 45 0 0 [.ref (xad x 4 k), .int a1, .int a2, .int a3] s0 (RI Q) E := by
  refine MetG.of hl (by decide) (Nat.le_of_ble_eq_true rfl) [some (.ref (xad x 4 k)), some (.int a1), some (.int a2), some (.int a3)] rfl (fun K B hx _ => ?_)
  subst hx
  unfold wX10_takeBale at h
  refine g_aload_n (np := 1) B.1 dX10_takeBale_0 rfl rfl ?_
  refine g_dup (np := 2) B.1 dX10_takeBale_1 rfl rfl ?_
  refine gf_YStock_38_4 (np := 5) B.1 k hk dX10_takeBale_2 rfl ?_
  refine g_iload_n (np := 6) B.1 dX10_takeBale_5 rfl rfl ?_
  refine g_iload_n (np := 7) B.1 dX10_takeBale_6 rfl rfl ?_
  refine g_imul (np := 8) B.1 dX10_takeBale_7 rfl ?_
  refine g_isub (np := 9) B.1 dX10_takeBale_8 rfl ?_
  refine gp_YStock_38_4 (np := 12) B.1 k hk dX10_takeBale_9 rfl ?_
  refine g_mem (fun s1 es1 => ?_)
  replace h := h s1 es1
  refine g_aload_n (np := 13) B.1 dX10_takeBale_12 rfl rfl ?_
  refine g_dup (np := 14) B.1 dX10_takeBale_13 rfl rfl ?_
  refine gf_YStock_67_4 (np := 17) B.1 k hk dX10_takeBale_14 rfl ?_
  refine g_iload_n (np := 18) B.1 dX10_takeBale_17 rfl rfl ?_
  refine g_iload_n (np := 19) B.1 dX10_takeBale_18 rfl rfl ?_
  refine g_imul (np := 20) B.1 dX10_takeBale_19 rfl ?_
  refine g_iadd (np := 21) B.1 dX10_takeBale_20 rfl ?_
  refine gp_YStock_67_4 (np := 24) B.1 k hk dX10_takeBale_21 rfl ?_
  refine g_mem (fun s2 es2 => ?_)
  replace h := h s2 es2
  refine g_aload_n (np := 25) B.1 dX10_takeBale_24 rfl rfl ?_
  refine gf_YStock_12_4 (np := 28) B.1 k hk dX10_takeBale_25 rfl ?_
  refine g_iload_n (np := 29) B.1 dX10_takeBale_28 rfl rfl ?_
  refine g_iload_n (np := 30) B.1 dX10_takeBale_29 rfl rfl ?_
  refine g_iload_n (np := 31) B.1 dX10_takeBale_30 rfl rfl ?_
  refine gc_YStock_70 (np := 34) B k hk (oX1_add B.1.tr k hk a1 a2 a3  _ _ _ h) (Nat.le_of_ble_eq_true rfl) (Nat.le_of_ble_eq_true rfl) (Nat.le_of_ble_eq_true rfl) (Nat.le_of_ble_eq_true rfl) (Nat.le_of_ble_eq_true rfl) dX10_takeBale_31 rfl (fun r3 s4 h => ?_)
  exact g_iret B (ty := .int) rfl rfl (Nat.le_of_ble_eq_true rfl) (Nat.le_of_ble_eq_true rfl) dX10_takeBale_34 ⟨_, rfl, h⟩
def wX10_useBales (k : Nat) (a1 : Int32) (s0 : Mem) (Q : Int32 → Mem → Prop) (E : String → Mem → Prop) : Prop := wX1_weightOf k a1 s0 (fun (r1 : Int32) (s2 : Mem) => ∀ s3 : Mem, s3 = wr s2 4 k 3 ((rd s0 4 k 3) + r1) → wX1_removeSet k a1 s3 (fun (s5 : Mem) => Q (rd s5 4 k 3) s5) E) E
set_option maxRecDepth 20000 in
set_option maxHeartbeats 4000000 in
theorem oX10_useBales {l : Launch} {x : Ctx} (hl : l.stackTraces = false) (k : Nat) (hk : k < 11) (a1 : Int32)  (s0 : Mem) (Q : Int32 → Mem → Prop) (E : String → Mem → Prop) (h : wX10_useBales k a1 s0 Q E) : MetG l x yX10_useBales cX10_useBales 2 (some .int) 3 65 0 0 [.ref (xad x 4 k), .int a1] s0 (RI Q) E := by
  refine MetG.of hl (by decide) (Nat.le_of_ble_eq_true rfl) [some (.ref (xad x 4 k)), some (.int a1)] rfl (fun K B hx _ => ?_)
  subst hx
  unfold wX10_useBales at h
  refine g_aload_n (np := 1) B.1 dX10_useBales_0 rfl rfl ?_
  refine g_dup (np := 2) B.1 dX10_useBales_1 rfl rfl ?_
  refine gf_YStock_74_4 (np := 5) B.1 k hk dX10_useBales_2 rfl ?_
  refine g_aload_n (np := 6) B.1 dX10_useBales_5 rfl rfl ?_
  refine gf_YStock_12_4 (np := 9) B.1 k hk dX10_useBales_6 rfl ?_
  refine g_iload_n (np := 10) B.1 dX10_useBales_9 rfl rfl ?_
  refine gc_YStock_77 (np := 13) B k hk (oX1_weightOf B.1.tr k hk a1  _ _ _ h) (Nat.le_of_ble_eq_true rfl) (Nat.le_of_ble_eq_true rfl) (Nat.le_of_ble_eq_true rfl) (Nat.le_of_ble_eq_true rfl) (Nat.le_of_ble_eq_true rfl) dX10_useBales_10 rfl (fun r1 s2 h => ?_)
  refine g_iadd (np := 14) B.1 dX10_useBales_13 rfl ?_
  refine gp_YStock_74_4 (np := 17) B.1 k hk dX10_useBales_14 rfl ?_
  refine g_mem (fun s3 es3 => ?_)
  replace h := h s3 es3
  refine g_aload_n (np := 18) B.1 dX10_useBales_17 rfl rfl ?_
  refine gf_YStock_12_4 (np := 21) B.1 k hk dX10_useBales_18 rfl ?_
  refine g_iload_n (np := 22) B.1 dX10_useBales_21 rfl rfl ?_
  refine gc_YStock_81 (np := 25) B k hk (oX1_removeSet B.1.tr k hk a1  _ _ _ h) (Nat.le_of_ble_eq_true rfl) (Nat.le_of_ble_eq_true rfl) (Nat.le_of_ble_eq_true rfl) (Nat.le_of_ble_eq_true rfl) (Nat.le_of_ble_eq_true rfl) dX10_useBales_22 rfl (fun s5 h => ?_)
  refine g_aload_n (np := 26) B.1 dX10_useBales_25 rfl rfl ?_
  refine gf_YStock_74_4 (np := 29) B.1 k hk dX10_useBales_26 rfl ?_
  exact g_iret B (ty := .int) rfl rfl (Nat.le_of_ble_eq_true rfl) (Nat.le_of_ble_eq_true rfl) dX10_useBales_29 ⟨_, rfl, h⟩
def wX10_changeMachines (k : Nat) (a1 : Int32) (s0 : Mem) (Q : Int32 → Mem → Prop) (E : String → Mem → Prop) : Prop := ∀ v2_1 : Int32, v2_1 = (rd s0 4 k 4) → ∀ s2 : Mem, s2 = wr s0 4 k 4 a1 → Q v2_1 s2
set_option maxRecDepth 20000 in
set_option maxHeartbeats 4000000 in
theorem oX10_changeMachines {l : Launch} {x : Ctx} (hl : l.stackTraces = false) (k : Nat) (hk : k < 11) (a1 : Int32)  (s0 : Mem) (Q : Int32 → Mem → Prop) (E : String → Mem → Prop) (h : wX10_changeMachines k a1 s0 Q E) : MetG l x yX10_changeMachines cX10_changeMachines 3 (some .int) 0 0 0 0 [.ref (xad x 4 k), .int a1] s0 (RI Q) E := by
  refine MetG.of hl (by decide) (Nat.le_of_ble_eq_true rfl) [some (.ref (xad x 4 k)), some (.int a1), none] rfl (fun K B hx _ => ?_)
  subst hx
  unfold wX10_changeMachines at h
  refine g_aload_n (np := 1) B.1 dX10_changeMachines_0 rfl rfl ?_
  refine gf_YStock_34_4 (np := 4) B.1 k hk dX10_changeMachines_1 rfl ?_
  refine g_topi (fun v2_1 ev2_1 => ?_)
  replace h := h v2_1 ev2_1
  refine g_istore_n (np := 5) (lv' := [some (.ref (xad (fX K) 4 k)), some (.int a1), some (.int v2_1)]) B.1 dX10_changeMachines_4 (by decide) rfl rfl rfl ?_
  refine g_aload_n (np := 6) B.1 dX10_changeMachines_5 rfl rfl ?_
  refine g_iload_n (np := 7) B.1 dX10_changeMachines_6 rfl rfl ?_
  refine gp_YStock_34_4 (np := 10) B.1 k hk dX10_changeMachines_7 rfl ?_
  refine g_mem (fun s2 es2 => ?_)
  replace h := h s2 es2
  refine g_iload_n (np := 11) B.1 dX10_changeMachines_10 rfl rfl ?_
  exact g_iret B (ty := .int) rfl rfl (Nat.le_of_ble_eq_true rfl) (Nat.le_of_ble_eq_true rfl) dX10_changeMachines_11 ⟨_, rfl, h⟩
def wX10_refusalOfSpinning (k : Nat) (a1 : Int32) (s0 : Mem) (Q : Nat → Mem → Prop) (E : String → Mem → Prop) : Prop := wX7_has (10 * k + 5) a1 s0 (fun (r1 : Int32) (s2 : Mem) => ((¬ r1 = 0 → wX7_get (10 * k + 6) a1 s2 (fun (r3 : Int32) (s4 : Mem) => ((r3 ≤ rd s2 4 k 3 → wX7_size (10 * k + 9)  s4 (fun (r5 : Int32) (s6 : Mem) => wX5_piecesAt k a1 s6 (fun (r7 : Int32) (s8 : Mem) => ((r5 + r7 ≤ 12 → Q 0 s8) ∧ (¬ r5 + r7 ≤ 12 → Q 2 s8))) E) E) ∧ (¬ r3 ≤ rd s2 4 k 3 → Q 3 s4))) E) ∧ (r1 = 0 → Q 4 s2))) E
set_option maxRecDepth 20000 in
set_option maxHeartbeats 4000000 in
theorem oX10_refusalOfSpinning {l : Launch} {x : Ctx} (hl : l.stackTraces = false) (k : Nat) (hk : k < 11) (a1 : Int32)  (s0 : Mem) (Q : Nat → Mem → Prop) (E : String → Mem → Prop) (h : wX10_refusalOfSpinning k a1 s0 Q E) : MetG l x yX10_refusalOfSpinning cX10_refusalOfSpinning 2 (some (.object "YarnMill$Refusal")) 3 64 0 0 [.ref (xad x 4 k), .int a1] s0 (RE x Q) E := by
  refine MetG.of hl (by decide) (Nat.le_of_ble_eq_true rfl) [some (.ref (xad x 4 k)), some (.int a1)] rfl (fun K B hx _ => ?_)
  subst hx
  unfold wX10_refusalOfSpinning at h
  refine g_aload_n (np := 1) B.1 dX10_refusalOfSpinning_0 rfl rfl ?_
  refine gf_YStock_21_4 (np := 4) B.1 k hk dX10_refusalOfSpinning_1 rfl ?_
  refine gf_YStock_84_3 (np := 7) B.1 k hk dX10_refusalOfSpinning_4 rfl ?_
  refine g_iload_n (np := 8) B.1 dX10_refusalOfSpinning_7 rfl rfl ?_
  refine gc_YStock_85 (np := 11) B (10 * k + 5) (lt_row hk (by decide)) (oX7_has B.1.tr (10 * k + 5) (lt_row hk (by decide)) a1  _ _ _ h) (Nat.le_of_ble_eq_true rfl) (Nat.le_of_ble_eq_true rfl) (Nat.le_of_ble_eq_true rfl) (Nat.le_of_ble_eq_true rfl) (Nat.le_of_ble_eq_true rfl) dX10_refusalOfSpinning_8 rfl (fun r1 s2 h => ?_)
  refine g_if_ne (np := 14) (tgt := 18) B.1 dX10_refusalOfSpinning_11 (by decide) rfl (fun q => ?_) (fun q => ?_)
  · replace h := h.1 q
    refine g_aload_n (np := 19) B.1 dX10_refusalOfSpinning_18 rfl rfl ?_
    refine gf_YStock_74_4 (np := 22) B.1 k hk dX10_refusalOfSpinning_19 rfl ?_
    refine g_aload_n (np := 23) B.1 dX10_refusalOfSpinning_22 rfl rfl ?_
    refine gf_YStock_21_4 (np := 26) B.1 k hk dX10_refusalOfSpinning_23 rfl ?_
    refine gf_YStock_92_3 (np := 29) B.1 k hk dX10_refusalOfSpinning_26 rfl ?_
    refine g_iload_n (np := 30) B.1 dX10_refusalOfSpinning_29 rfl rfl ?_
    refine gc_YStock_95 (np := 33) B (10 * k + 6) (lt_row hk (by decide)) (oX7_get B.1.tr (10 * k + 6) (lt_row hk (by decide)) a1  _ _ _ h) (Nat.le_of_ble_eq_true rfl) (Nat.le_of_ble_eq_true rfl) (Nat.le_of_ble_eq_true rfl) (Nat.le_of_ble_eq_true rfl) (Nat.le_of_ble_eq_true rfl) dX10_refusalOfSpinning_30 rfl (fun r3 s4 h => ?_)
    refine g_icmp_ge (np := 36) (tgt := 40) B.1 dX10_refusalOfSpinning_33 (by decide) rfl (fun q => ?_) (fun q => ?_)
    · replace h := h.1 q
      refine g_aload_n (np := 41) B.1 dX10_refusalOfSpinning_40 rfl rfl ?_
      refine gf_YStock_30_4 (np := 44) B.1 k hk dX10_refusalOfSpinning_41 rfl ?_
      refine gc_YStock_98 (np := 47) B (10 * k + 9) (lt_row hk (by decide)) (oX7_size B.1.tr (10 * k + 9) (lt_row hk (by decide))   _ _ _ h) (Nat.le_of_ble_eq_true rfl) (Nat.le_of_ble_eq_true rfl) (Nat.le_of_ble_eq_true rfl) (Nat.le_of_ble_eq_true rfl) (Nat.le_of_ble_eq_true rfl) dX10_refusalOfSpinning_44 rfl (fun r5 s6 h => ?_)
      refine g_aload_n (np := 48) B.1 dX10_refusalOfSpinning_47 rfl rfl ?_
      refine gf_YStock_21_4 (np := 51) B.1 k hk dX10_refusalOfSpinning_48 rfl ?_
      refine g_iload_n (np := 52) B.1 dX10_refusalOfSpinning_51 rfl rfl ?_
      refine gc_YStock_102 (np := 55) B k hk (oX5_piecesAt B.1.tr k hk a1  _ _ _ h) (Nat.le_of_ble_eq_true rfl) (Nat.le_of_ble_eq_true rfl) (Nat.le_of_ble_eq_true rfl) (Nat.le_of_ble_eq_true rfl) (Nat.le_of_ble_eq_true rfl) dX10_refusalOfSpinning_52 rfl (fun r7 s8 h => ?_)
      refine g_iadd (np := 56) B.1 dX10_refusalOfSpinning_55 rfl ?_
      refine g_bipush (np := 58) (v := 12) B.1 dX10_refusalOfSpinning_56 (by decide) rfl ?_
      refine g_icmp_le (np := 61) (tgt := 67) B.1 dX10_refusalOfSpinning_58 (by decide) rfl (fun q => ?_) (fun q => ?_)
      · replace h := h.1 q
        refine g_getRef (np := 70) B.1 0 (by decide) b_547 dX10_refusalOfSpinning_67 rfl ?_
        exact g_aret B rfl (Or.inl ⟨_, rfl⟩) (Or.inr ⟨_, rfl⟩) (Nat.le_of_ble_eq_true rfl) (Nat.le_of_ble_eq_true rfl) dX10_refusalOfSpinning_70 ⟨_, rfl, (by decide), h⟩
      · replace h := h.2 q
        refine g_getRef (np := 64) B.1 2 (by decide) b_543 dX10_refusalOfSpinning_61 rfl ?_
        refine g_goto (tgt := 70) B.1 dX10_refusalOfSpinning_64 (by decide) ?_
        exact g_aret B rfl (Or.inl ⟨_, rfl⟩) (Or.inr ⟨_, rfl⟩) (Nat.le_of_ble_eq_true rfl) (Nat.le_of_ble_eq_true rfl) dX10_refusalOfSpinning_70 ⟨_, rfl, (by decide), h⟩
    · replace h := h.2 q
      refine g_getRef (np := 39) B.1 3 (by decide) b_545 dX10_refusalOfSpinning_36 rfl ?_
      exact g_aret B rfl (Or.inl ⟨_, rfl⟩) (Or.inr ⟨_, rfl⟩) (Nat.le_of_ble_eq_true rfl) (Nat.le_of_ble_eq_true rfl) dX10_refusalOfSpinning_39 ⟨_, rfl, (by decide), h⟩
  · replace h := h.2 q
    refine g_getRef (np := 17) B.1 4 (by decide) b_606 dX10_refusalOfSpinning_14 rfl ?_
    exact g_aret B rfl (Or.inl ⟨_, rfl⟩) (Or.inr ⟨_, rfl⟩) (Nat.le_of_ble_eq_true rfl) (Nat.le_of_ble_eq_true rfl) dX10_refusalOfSpinning_17 ⟨_, rfl, (by decide), h⟩
def wX10_spinAt_34 (k : Nat)  (Q : Int32 → Mem → Prop) (E : String → Mem → Prop)  (X64 : Int32 → Int32 → Int32 → Mem → Prop) : Nat → Int32 → Int32 → Int32 → Int32 → Int32 → Mem → Prop
  | 0, _, _, _, _, _, _ => False
  | n34 + 1, v1, v2, v3, v4, v5, s0 => ((v4 ≤ v5 → X64 v1 v2 v4 s0) ∧ (¬ v4 ≤ v5 → wX7_add (10 * k + 9) (if (v2 - (v5 * v3)) < v3 then (v2 - (v5 * v3)) else v3) s0 (fun (s8 : Mem) => ∀ v5_9 : Int32, v5_9 = (v5 + 1) → wX10_spinAt_34 k  Q E X64 n34 v1 v2 v3 v4 v5_9 s8) E))
def wX10_spinAt (k : Nat) (a1 : Int32) (s0 : Mem) (Q : Int32 → Mem → Prop) (E : String → Mem → Prop) : Prop := wX7_get (10 * k + 6) a1 s0 (fun (r1 : Int32) (s2 : Mem) => wX5_breakAt k a1 s2 (fun (r3 : Int32) (s4 : Mem) => wX5_piecesAt k a1 s4 (fun (r5 : Int32) (s6 : Mem) => ∃ m21 : Nat, wX10_spinAt_34 k  Q E (fun (x1_10 : Int32) (x2_11 : Int32) (x4_12 : Int32) (s13 : Mem) => ∀ s14 : Mem, s14 = wr s13 4 k 3 ((rd s13 4 k 3) - x2_11) → ∀ s15 : Mem, s15 = wr s14 4 k 9 ((rd s14 4 k 9) + x2_11) → wX7_get (10 * k + 8) x1_10 s15 (fun (r16 : Int32) (s17 : Mem) => ∀ s18 : Mem, s18 = wr s17 4 k 5 ((rd s15 4 k 5) + r16) → wX5_close k x1_10 s18 (fun (r19 : Int32) (s20 : Mem) => Q x4_12 s20) E) E) m21 a1 r1 r3 r5 0  s6) E) E) E
set_option maxRecDepth 20000 in
set_option maxHeartbeats 4000000 in
theorem oX10_spinAt_34 {K : Fr} {Q : Int32 → Mem → Prop} {E : String → Mem → Prop} (B : Bd K cX10_spinAt "YarnMill$Stock" 6 (some .int) 3 64 0 0 (RI Q) E) (k : Nat)  (hk : k < 11) {X64 : Int32 → Int32 → Int32 → Mem → Prop} {cells slots : Nat} (hX64 : ∀ (y1 : Int32) (y2 : Int32) (y4 : Int32) (τ : Mem), X64 y1 y2 y4 τ → Go K cells slots τ 64 [some (.ref (xad (fX K) 4 k)), some (.int y1), some (.int y2), none, some (.int y4), none] ([])) (hc : cells ≤ 0) (hs : slots ≤ 0) : ∀ (n : Nat) (v1 : Int32) (v2 : Int32) (v3 : Int32) (v4 : Int32) (v5 : Int32) (s0 : Mem), wX10_spinAt_34 k  Q E X64 n v1 v2 v3 v4 v5 s0 → Go K cells slots s0 34 [some (.ref (xad (fX K) 4 k)), some (.int v1), some (.int v2), some (.int v3), some (.int v4), some (.int v5)] ([]) := by
  intro n
  induction n with
  | zero => intro v1 v2 v3 v4 v5 s0 h; exact absurd h (by simp [wX10_spinAt_34])
  | succ n ih =>
    intro v1 v2 v3 v4 v5 s0 h
    simp only [wX10_spinAt_34] at h
    refine g_iload (np := 36) B.1 dX10_spinAt_34 rfl rfl ?_
    refine g_iload (np := 38) B.1 dX10_spinAt_36 rfl rfl ?_
    refine g_icmp_ge (np := 41) (tgt := 64) B.1 dX10_spinAt_38 (by decide) rfl (fun q => ?_) (fun q => ?_)
    · replace h := h.1 q
      refine Go.lle [some (.ref (xad (fX K) 4 k)), some (.int v1), some (.int v2), none, some (.int v4), none] (by simp [lle]) ?_
      exact hX64 v1 v2 v4 s0 h
    · replace h := h.2 q
      refine g_aload_n (np := 42) B.1 dX10_spinAt_41 rfl rfl ?_
      refine gf_YStock_30_4 (np := 45) B.1 k hk dX10_spinAt_42 rfl ?_
      refine g_iload_n (np := 46) B.1 dX10_spinAt_45 rfl rfl ?_
      refine g_iload_n (np := 47) B.1 dX10_spinAt_46 rfl rfl ?_
      refine g_iload (np := 49) B.1 dX10_spinAt_47 rfl rfl ?_
      refine g_iload_n (np := 50) B.1 dX10_spinAt_49 rfl rfl ?_
      refine g_imul (np := 51) B.1 dX10_spinAt_50 rfl ?_
      refine g_isub (np := 52) B.1 dX10_spinAt_51 rfl ?_
      refine g_mmin (np := 55) B.1 b_751 b_155 b_30 b_156 (by rw [B.2.1]; exact Nat.le_of_ble_eq_true rfl) (by rw [B.2.1]; exact Nat.le_of_ble_eq_true rfl) (by rw [B.2.1]; exact hc) (by rw [B.2.1]; exact hs) dX10_spinAt_52 rfl ?_
      refine gc_YStock_114 (np := 58) B (10 * k + 9) (lt_row hk (by decide)) (oX7_add B.1.tr (10 * k + 9) (lt_row hk (by decide)) (if (v2 - (v5 * v3)) < v3 then (v2 - (v5 * v3)) else v3)  _ _ _ h) (Nat.le_of_ble_eq_true rfl) (Nat.le_of_ble_eq_true rfl) (Nat.le_of_ble_eq_true rfl) hc hs dX10_spinAt_55 rfl (fun s8 h => ?_)
      obtain ⟨v5_9, ev5_9⟩ : ∃ y : Int32, y = v5 + 1 := ⟨_, rfl⟩
      replace h := h v5_9 ev5_9
      refine g_iinc (np := 61) (v := v5_9) (lv' := [some (.ref (xad (fX K) 4 k)), some (.int v1), some (.int v2), some (.int v3), some (.int v4), some (.int v5_9)]) B.1 dX10_spinAt_58 rfl (by rw [ev5_9]; rfl) (by decide) rfl rfl rfl ?_
      refine g_goto (tgt := 34) B.1 dX10_spinAt_61 (by decide) ?_
      refine Go.lle [some (.ref (xad (fX K) 4 k)), some (.int v1), some (.int v2), some (.int v3), some (.int v4), some (.int v5_9)] (by simp [lle]) ?_
      exact ih v1 v2 v3 v4 v5_9 s8 h
set_option maxRecDepth 20000 in
set_option maxHeartbeats 4000000 in
theorem oX10_spinAt {l : Launch} {x : Ctx} (hl : l.stackTraces = false) (k : Nat) (hk : k < 11) (a1 : Int32)  (s0 : Mem) (Q : Int32 → Mem → Prop) (E : String → Mem → Prop) (h : wX10_spinAt k a1 s0 Q E) : MetG l x yX10_spinAt cX10_spinAt 6 (some .int) 3 64 0 0 [.ref (xad x 4 k), .int a1] s0 (RI Q) E := by
  refine MetG.of hl (by decide) (Nat.le_of_ble_eq_true rfl) [some (.ref (xad x 4 k)), some (.int a1), none, none, none, none] rfl (fun K B hx _ => ?_)
  subst hx
  unfold wX10_spinAt at h
  refine g_aload_n (np := 1) B.1 dX10_spinAt_0 rfl rfl ?_
  refine gf_YStock_21_4 (np := 4) B.1 k hk dX10_spinAt_1 rfl ?_
  refine gf_YStock_92_3 (np := 7) B.1 k hk dX10_spinAt_4 rfl ?_
  refine g_iload_n (np := 8) B.1 dX10_spinAt_7 rfl rfl ?_
  refine gc_YStock_95 (np := 11) B (10 * k + 6) (lt_row hk (by decide)) (oX7_get B.1.tr (10 * k + 6) (lt_row hk (by decide)) a1  _ _ _ h) (Nat.le_of_ble_eq_true rfl) (Nat.le_of_ble_eq_true rfl) (Nat.le_of_ble_eq_true rfl) (Nat.le_of_ble_eq_true rfl) (Nat.le_of_ble_eq_true rfl) dX10_spinAt_8 rfl (fun r1 s2 h => ?_)
  refine g_istore_n (np := 12) (lv' := [some (.ref (xad (fX K) 4 k)), some (.int a1), some (.int r1), none, none, none]) B.1 dX10_spinAt_11 (by decide) rfl rfl rfl ?_
  refine g_aload_n (np := 13) B.1 dX10_spinAt_12 rfl rfl ?_
  refine gf_YStock_21_4 (np := 16) B.1 k hk dX10_spinAt_13 rfl ?_
  refine g_iload_n (np := 17) B.1 dX10_spinAt_16 rfl rfl ?_
  refine gc_YStock_105 (np := 20) B k hk (oX5_breakAt B.1.tr k hk a1  _ _ _ h) (Nat.le_of_ble_eq_true rfl) (Nat.le_of_ble_eq_true rfl) (Nat.le_of_ble_eq_true rfl) (Nat.le_of_ble_eq_true rfl) (Nat.le_of_ble_eq_true rfl) dX10_spinAt_17 rfl (fun r3 s4 h => ?_)
  refine g_istore_n (np := 21) (lv' := [some (.ref (xad (fX K) 4 k)), some (.int a1), some (.int r1), some (.int r3), none, none]) B.1 dX10_spinAt_20 (by decide) rfl rfl rfl ?_
  refine g_aload_n (np := 22) B.1 dX10_spinAt_21 rfl rfl ?_
  refine gf_YStock_21_4 (np := 25) B.1 k hk dX10_spinAt_22 rfl ?_
  refine g_iload_n (np := 26) B.1 dX10_spinAt_25 rfl rfl ?_
  refine gc_YStock_102 (np := 29) B k hk (oX5_piecesAt B.1.tr k hk a1  _ _ _ h) (Nat.le_of_ble_eq_true rfl) (Nat.le_of_ble_eq_true rfl) (Nat.le_of_ble_eq_true rfl) (Nat.le_of_ble_eq_true rfl) (Nat.le_of_ble_eq_true rfl) dX10_spinAt_26 rfl (fun r5 s6 h => ?_)
  refine g_istore (np := 31) (lv' := [some (.ref (xad (fX K) 4 k)), some (.int a1), some (.int r1), some (.int r3), some (.int r5), none]) B.1 dX10_spinAt_29 (by decide) rfl rfl rfl ?_
  refine g_iconst (np := 32) (v := 0) B.1 dX10_spinAt_31 (by decide) rfl ?_
  refine g_istore (np := 34) (lv' := [some (.ref (xad (fX K) 4 k)), some (.int a1), some (.int r1), some (.int r3), some (.int r5), some (.int 0)]) B.1 dX10_spinAt_32 (by decide) rfl rfl rfl ?_
  obtain ⟨m21, h⟩ := h
  refine Go.lle [some (.ref (xad (fX K) 4 k)), some (.int a1), some (.int r1), some (.int r3), some (.int r5), some (.int 0)] (by simp [lle]) ?_
  refine oX10_spinAt_34 B k  hk (fun x1_10 x2_11 x4_12 s13 h => ?_) (Nat.le_of_ble_eq_true rfl) (Nat.le_of_ble_eq_true rfl) m21 a1 r1 r3 r5 0  s6 h
  refine g_aload_n (np := 65) B.1 dX10_spinAt_64 rfl rfl ?_
  refine g_dup (np := 66) B.1 dX10_spinAt_65 rfl rfl ?_
  refine gf_YStock_74_4 (np := 69) B.1 k hk dX10_spinAt_66 rfl ?_
  refine g_iload_n (np := 70) B.1 dX10_spinAt_69 rfl rfl ?_
  refine g_isub (np := 71) B.1 dX10_spinAt_70 rfl ?_
  refine gp_YStock_74_4 (np := 74) B.1 k hk dX10_spinAt_71 rfl ?_
  refine g_mem (fun s14 es14 => ?_)
  replace h := h s14 es14
  refine g_aload_n (np := 75) B.1 dX10_spinAt_74 rfl rfl ?_
  refine g_dup (np := 76) B.1 dX10_spinAt_75 rfl rfl ?_
  refine gf_YStock_116_4 (np := 79) B.1 k hk dX10_spinAt_76 rfl ?_
  refine g_iload_n (np := 80) B.1 dX10_spinAt_79 rfl rfl ?_
  refine g_iadd (np := 81) B.1 dX10_spinAt_80 rfl ?_
  refine gp_YStock_116_4 (np := 84) B.1 k hk dX10_spinAt_81 rfl ?_
  refine g_mem (fun s15 es15 => ?_)
  replace h := h s15 es15
  refine g_aload_n (np := 85) B.1 dX10_spinAt_84 rfl rfl ?_
  refine g_dup (np := 86) B.1 dX10_spinAt_85 rfl rfl ?_
  refine gf_YStock_119_4 (np := 89) B.1 k hk dX10_spinAt_86 rfl ?_
  refine g_aload_n (np := 90) B.1 dX10_spinAt_89 rfl rfl ?_
  refine gf_YStock_21_4 (np := 93) B.1 k hk dX10_spinAt_90 rfl ?_
  refine gf_YStock_122_3 (np := 96) B.1 k hk dX10_spinAt_93 rfl ?_
  refine g_iload_n (np := 97) B.1 dX10_spinAt_96 rfl rfl ?_
  refine gc_YStock_95 (np := 100) B (10 * k + 8) (lt_row hk (by decide)) (oX7_get B.1.tr (10 * k + 8) (lt_row hk (by decide)) x1_10  _ _ _ h) (Nat.le_of_ble_eq_true rfl) (Nat.le_of_ble_eq_true rfl) (Nat.le_of_ble_eq_true rfl) (Nat.le_of_ble_eq_true rfl) (Nat.le_of_ble_eq_true rfl) dX10_spinAt_97 rfl (fun r16 s17 h => ?_)
  refine g_iadd (np := 101) B.1 dX10_spinAt_100 rfl ?_
  refine gp_YStock_119_4 (np := 104) B.1 k hk dX10_spinAt_101 rfl ?_
  refine g_mem (fun s18 es18 => ?_)
  replace h := h s18 es18
  refine g_aload_n (np := 105) B.1 dX10_spinAt_104 rfl rfl ?_
  refine gf_YStock_21_4 (np := 108) B.1 k hk dX10_spinAt_105 rfl ?_
  refine g_iload_n (np := 109) B.1 dX10_spinAt_108 rfl rfl ?_
  refine gc_YStock_125 (np := 112) B k hk (oX5_close B.1.tr k hk x1_10  _ _ _ h) (Nat.le_of_ble_eq_true rfl) (Nat.le_of_ble_eq_true rfl) (Nat.le_of_ble_eq_true rfl) (Nat.le_of_ble_eq_true rfl) (Nat.le_of_ble_eq_true rfl) dX10_spinAt_109 rfl (fun r19 s20 h => ?_)
  refine g_pop (np := 113) B.1 dX10_spinAt_112 rfl rfl ?_
  refine g_iload (np := 115) B.1 dX10_spinAt_113 rfl rfl ?_
  exact g_iret B (ty := .int) rfl rfl (Nat.le_of_ble_eq_true rfl) (Nat.le_of_ble_eq_true rfl) dX10_spinAt_115 ⟨_, rfl, h⟩
def wX10_spliceAt (k : Nat) (a1 : Int32) (s0 : Mem) (Q : Int32 → Mem → Prop) (E : String → Mem → Prop) : Prop := wX7_get (10 * k + 9) a1 s0 (fun (r1 : Int32) (s2 : Mem) => wX7_get (10 * k + 9) (a1 + 1) s2 (fun (r3 : Int32) (s4 : Mem) => ∀ v2_5 : Int32, v2_5 = (r1 + r3) → wX7_put (10 * k + 9) a1 (v2_5 - 1) s4 (fun (s7 : Mem) => wX7_removeAt (10 * k + 9) (a1 + 1) s7 (fun (s9 : Mem) => ∀ s10 : Mem, s10 = wr s9 4 k 5 ((rd s9 4 k 5) + v2_5) → ∀ s11 : Mem, s11 = wr s10 4 k 10 ((rd s10 4 k 10) + 1) → Q (v2_5 - 1) s11) E) E) E) E
set_option maxRecDepth 20000 in
set_option maxHeartbeats 4000000 in
theorem oX10_spliceAt {l : Launch} {x : Ctx} (hl : l.stackTraces = false) (k : Nat) (hk : k < 11) (a1 : Int32)  (s0 : Mem) (Q : Int32 → Mem → Prop) (E : String → Mem → Prop) (h : wX10_spliceAt k a1 s0 Q E) : MetG l x yX10_spliceAt cX10_spliceAt 3 (some .int) 1 22 0 0 [.ref (xad x 4 k), .int a1] s0 (RI Q) E := by
  refine MetG.of hl (by decide) (Nat.le_of_ble_eq_true rfl) [some (.ref (xad x 4 k)), some (.int a1), none] rfl (fun K B hx _ => ?_)
  subst hx
  unfold wX10_spliceAt at h
  refine g_aload_n (np := 1) B.1 dX10_spliceAt_0 rfl rfl ?_
  refine gf_YStock_30_4 (np := 4) B.1 k hk dX10_spliceAt_1 rfl ?_
  refine g_iload_n (np := 5) B.1 dX10_spliceAt_4 rfl rfl ?_
  refine gc_YStock_95 (np := 8) B (10 * k + 9) (lt_row hk (by decide)) (oX7_get B.1.tr (10 * k + 9) (lt_row hk (by decide)) a1  _ _ _ h) (Nat.le_of_ble_eq_true rfl) (Nat.le_of_ble_eq_true rfl) (Nat.le_of_ble_eq_true rfl) (Nat.le_of_ble_eq_true rfl) (Nat.le_of_ble_eq_true rfl) dX10_spliceAt_5 rfl (fun r1 s2 h => ?_)
  refine g_aload_n (np := 9) B.1 dX10_spliceAt_8 rfl rfl ?_
  refine gf_YStock_30_4 (np := 12) B.1 k hk dX10_spliceAt_9 rfl ?_
  refine g_iload_n (np := 13) B.1 dX10_spliceAt_12 rfl rfl ?_
  refine g_iconst (np := 14) (v := 1) B.1 dX10_spliceAt_13 (by decide) rfl ?_
  refine g_iadd (np := 15) B.1 dX10_spliceAt_14 rfl ?_
  refine gc_YStock_95 (np := 18) B (10 * k + 9) (lt_row hk (by decide)) (oX7_get B.1.tr (10 * k + 9) (lt_row hk (by decide)) (a1 + 1)  _ _ _ h) (Nat.le_of_ble_eq_true rfl) (Nat.le_of_ble_eq_true rfl) (Nat.le_of_ble_eq_true rfl) (Nat.le_of_ble_eq_true rfl) (Nat.le_of_ble_eq_true rfl) dX10_spliceAt_15 rfl (fun r3 s4 h => ?_)
  refine g_iadd (np := 19) B.1 dX10_spliceAt_18 rfl ?_
  refine g_topi (fun v2_5 ev2_5 => ?_)
  replace h := h v2_5 ev2_5
  refine g_istore_n (np := 20) (lv' := [some (.ref (xad (fX K) 4 k)), some (.int a1), some (.int v2_5)]) B.1 dX10_spliceAt_19 (by decide) rfl rfl rfl ?_
  refine g_aload_n (np := 21) B.1 dX10_spliceAt_20 rfl rfl ?_
  refine gf_YStock_30_4 (np := 24) B.1 k hk dX10_spliceAt_21 rfl ?_
  refine g_iload_n (np := 25) B.1 dX10_spliceAt_24 rfl rfl ?_
  refine g_iload_n (np := 26) B.1 dX10_spliceAt_25 rfl rfl ?_
  refine g_iconst (np := 27) (v := 1) B.1 dX10_spliceAt_26 (by decide) rfl ?_
  refine g_isub (np := 28) B.1 dX10_spliceAt_27 rfl ?_
  refine gc_YStock_128 (np := 31) B (10 * k + 9) (lt_row hk (by decide)) (oX7_put B.1.tr (10 * k + 9) (lt_row hk (by decide)) a1 (v2_5 - 1)  _ _ _ h) (Nat.le_of_ble_eq_true rfl) (Nat.le_of_ble_eq_true rfl) (Nat.le_of_ble_eq_true rfl) (Nat.le_of_ble_eq_true rfl) (Nat.le_of_ble_eq_true rfl) dX10_spliceAt_28 rfl (fun s7 h => ?_)
  refine g_aload_n (np := 32) B.1 dX10_spliceAt_31 rfl rfl ?_
  refine gf_YStock_30_4 (np := 35) B.1 k hk dX10_spliceAt_32 rfl ?_
  refine g_iload_n (np := 36) B.1 dX10_spliceAt_35 rfl rfl ?_
  refine g_iconst (np := 37) (v := 1) B.1 dX10_spliceAt_36 (by decide) rfl ?_
  refine g_iadd (np := 38) B.1 dX10_spliceAt_37 rfl ?_
  refine gc_YStock_132 (np := 41) B (10 * k + 9) (lt_row hk (by decide)) (oX7_removeAt B.1.tr (10 * k + 9) (lt_row hk (by decide)) (a1 + 1)  _ _ _ h) (Nat.le_of_ble_eq_true rfl) (Nat.le_of_ble_eq_true rfl) (Nat.le_of_ble_eq_true rfl) (Nat.le_of_ble_eq_true rfl) (Nat.le_of_ble_eq_true rfl) dX10_spliceAt_38 rfl (fun s9 h => ?_)
  refine g_aload_n (np := 42) B.1 dX10_spliceAt_41 rfl rfl ?_
  refine g_dup (np := 43) B.1 dX10_spliceAt_42 rfl rfl ?_
  refine gf_YStock_119_4 (np := 46) B.1 k hk dX10_spliceAt_43 rfl ?_
  refine g_iload_n (np := 47) B.1 dX10_spliceAt_46 rfl rfl ?_
  refine g_iadd (np := 48) B.1 dX10_spliceAt_47 rfl ?_
  refine gp_YStock_119_4 (np := 51) B.1 k hk dX10_spliceAt_48 rfl ?_
  refine g_mem (fun s10 es10 => ?_)
  replace h := h s10 es10
  refine g_aload_n (np := 52) B.1 dX10_spliceAt_51 rfl rfl ?_
  refine g_dup (np := 53) B.1 dX10_spliceAt_52 rfl rfl ?_
  refine gf_YStock_135_4 (np := 56) B.1 k hk dX10_spliceAt_53 rfl ?_
  refine g_iconst (np := 57) (v := 1) B.1 dX10_spliceAt_56 (by decide) rfl ?_
  refine g_iadd (np := 58) B.1 dX10_spliceAt_57 rfl ?_
  refine gp_YStock_135_4 (np := 61) B.1 k hk dX10_spliceAt_58 rfl ?_
  refine g_mem (fun s11 es11 => ?_)
  replace h := h s11 es11
  refine g_iload_n (np := 62) B.1 dX10_spliceAt_61 rfl rfl ?_
  refine g_iconst (np := 63) (v := 1) B.1 dX10_spliceAt_62 (by decide) rfl ?_
  refine g_isub (np := 64) B.1 dX10_spliceAt_63 rfl ?_
  exact g_iret B (ty := .int) rfl rfl (Nat.le_of_ble_eq_true rfl) (Nat.le_of_ble_eq_true rfl) dX10_spliceAt_64 ⟨_, rfl, h⟩
def wX10_joinPieces (k : Nat) (a1 : Int32) (s0 : Mem) (Q : Int32 → Mem → Prop) (E : String → Mem → Prop) : Prop := wX7_size (10 * k + 9)  s0 (fun (r1 : Int32) (s2 : Mem) => ∀ v2_3 : Int32, v2_3 = (r1 - 1) → wX7_sum (10 * k + 9)  s2 (fun (r4 : Int32) (s5 : Mem) => ∀ v3_6 : Int32, v3_6 = (r4 - v2_3) → wX7_clear (10 * k + 9)  s5 (fun (s8 : Mem) => wX7_add (10 * k + 9) v3_6 s8 (fun (s10 : Mem) => ∀ s11 : Mem, s11 = wr s10 4 k 5 ((rd s10 4 k 5) + a1) → ∀ s12 : Mem, s12 = wr s11 4 k 10 ((rd s11 4 k 10) + v2_3) → Q v3_6 s12) E) E) E) E
set_option maxRecDepth 20000 in
set_option maxHeartbeats 4000000 in
theorem oX10_joinPieces {l : Launch} {x : Ctx} (hl : l.stackTraces = false) (k : Nat) (hk : k < 11) (a1 : Int32)  (s0 : Mem) (Q : Int32 → Mem → Prop) (E : String → Mem → Prop) (h : wX10_joinPieces k a1 s0 Q E) : MetG l x yX10_joinPieces cX10_joinPieces 4 (some .int) 1 22 0 0 [.ref (xad x 4 k), .int a1] s0 (RI Q) E := by
  refine MetG.of hl (by decide) (Nat.le_of_ble_eq_true rfl) [some (.ref (xad x 4 k)), some (.int a1), none, none] rfl (fun K B hx _ => ?_)
  subst hx
  unfold wX10_joinPieces at h
  refine g_aload_n (np := 1) B.1 dX10_joinPieces_0 rfl rfl ?_
  refine gf_YStock_30_4 (np := 4) B.1 k hk dX10_joinPieces_1 rfl ?_
  refine gc_YStock_98 (np := 7) B (10 * k + 9) (lt_row hk (by decide)) (oX7_size B.1.tr (10 * k + 9) (lt_row hk (by decide))   _ _ _ h) (Nat.le_of_ble_eq_true rfl) (Nat.le_of_ble_eq_true rfl) (Nat.le_of_ble_eq_true rfl) (Nat.le_of_ble_eq_true rfl) (Nat.le_of_ble_eq_true rfl) dX10_joinPieces_4 rfl (fun r1 s2 h => ?_)
  refine g_iconst (np := 8) (v := 1) B.1 dX10_joinPieces_7 (by decide) rfl ?_
  refine g_isub (np := 9) B.1 dX10_joinPieces_8 rfl ?_
  refine g_topi (fun v2_3 ev2_3 => ?_)
  replace h := h v2_3 ev2_3
  refine g_istore_n (np := 10) (lv' := [some (.ref (xad (fX K) 4 k)), some (.int a1), some (.int v2_3), none]) B.1 dX10_joinPieces_9 (by decide) rfl rfl rfl ?_
  refine g_aload_n (np := 11) B.1 dX10_joinPieces_10 rfl rfl ?_
  refine gf_YStock_30_4 (np := 14) B.1 k hk dX10_joinPieces_11 rfl ?_
  refine gc_YStock_138 (np := 17) B (10 * k + 9) (lt_row hk (by decide)) (oX7_sum B.1.tr (10 * k + 9) (lt_row hk (by decide))   _ _ _ h) (Nat.le_of_ble_eq_true rfl) (Nat.le_of_ble_eq_true rfl) (Nat.le_of_ble_eq_true rfl) (Nat.le_of_ble_eq_true rfl) (Nat.le_of_ble_eq_true rfl) dX10_joinPieces_14 rfl (fun r4 s5 h => ?_)
  refine g_iload_n (np := 18) B.1 dX10_joinPieces_17 rfl rfl ?_
  refine g_isub (np := 19) B.1 dX10_joinPieces_18 rfl ?_
  refine g_topi (fun v3_6 ev3_6 => ?_)
  replace h := h v3_6 ev3_6
  refine g_istore_n (np := 20) (lv' := [some (.ref (xad (fX K) 4 k)), some (.int a1), some (.int v2_3), some (.int v3_6)]) B.1 dX10_joinPieces_19 (by decide) rfl rfl rfl ?_
  refine g_aload_n (np := 21) B.1 dX10_joinPieces_20 rfl rfl ?_
  refine gf_YStock_30_4 (np := 24) B.1 k hk dX10_joinPieces_21 rfl ?_
  refine gc_YStock_141 (np := 27) B (10 * k + 9) (lt_row hk (by decide)) (oX7_clear B.1.tr (10 * k + 9) (lt_row hk (by decide))   _ _ _ h) (Nat.le_of_ble_eq_true rfl) (Nat.le_of_ble_eq_true rfl) (Nat.le_of_ble_eq_true rfl) (Nat.le_of_ble_eq_true rfl) (Nat.le_of_ble_eq_true rfl) dX10_joinPieces_24 rfl (fun s8 h => ?_)
  refine g_aload_n (np := 28) B.1 dX10_joinPieces_27 rfl rfl ?_
  refine gf_YStock_30_4 (np := 31) B.1 k hk dX10_joinPieces_28 rfl ?_
  refine g_iload_n (np := 32) B.1 dX10_joinPieces_31 rfl rfl ?_
  refine gc_YStock_114 (np := 35) B (10 * k + 9) (lt_row hk (by decide)) (oX7_add B.1.tr (10 * k + 9) (lt_row hk (by decide)) v3_6  _ _ _ h) (Nat.le_of_ble_eq_true rfl) (Nat.le_of_ble_eq_true rfl) (Nat.le_of_ble_eq_true rfl) (Nat.le_of_ble_eq_true rfl) (Nat.le_of_ble_eq_true rfl) dX10_joinPieces_32 rfl (fun s10 h => ?_)
  refine g_aload_n (np := 36) B.1 dX10_joinPieces_35 rfl rfl ?_
  refine g_dup (np := 37) B.1 dX10_joinPieces_36 rfl rfl ?_
  refine gf_YStock_119_4 (np := 40) B.1 k hk dX10_joinPieces_37 rfl ?_
  refine g_iload_n (np := 41) B.1 dX10_joinPieces_40 rfl rfl ?_
  refine g_iadd (np := 42) B.1 dX10_joinPieces_41 rfl ?_
  refine gp_YStock_119_4 (np := 45) B.1 k hk dX10_joinPieces_42 rfl ?_
  refine g_mem (fun s11 es11 => ?_)
  replace h := h s11 es11
  refine g_aload_n (np := 46) B.1 dX10_joinPieces_45 rfl rfl ?_
  refine g_dup (np := 47) B.1 dX10_joinPieces_46 rfl rfl ?_
  refine gf_YStock_135_4 (np := 50) B.1 k hk dX10_joinPieces_47 rfl ?_
  refine g_iload_n (np := 51) B.1 dX10_joinPieces_50 rfl rfl ?_
  refine g_iadd (np := 52) B.1 dX10_joinPieces_51 rfl ?_
  refine gp_YStock_135_4 (np := 55) B.1 k hk dX10_joinPieces_52 rfl ?_
  refine g_mem (fun s12 es12 => ?_)
  replace h := h s12 es12
  refine g_iload_n (np := 56) B.1 dX10_joinPieces_55 rfl rfl ?_
  exact g_iret B (ty := .int) rfl rfl (Nat.le_of_ble_eq_true rfl) (Nat.le_of_ble_eq_true rfl) dX10_joinPieces_56 ⟨_, rfl, h⟩
def wX10_worthAt (k : Nat) (a1 : Int32) (s0 : Mem) (Q : Int32 → Mem → Prop) (E : String → Mem → Prop) : Prop := wX7_get (10 * k + 9) a1 s0 (fun (r1 : Int32) (s2 : Mem) => ((r1 < 10 → Q (r1 * 2) s2) ∧ (¬ r1 < 10 → Q (r1 * 5) s2))) E
set_option maxRecDepth 20000 in
set_option maxHeartbeats 4000000 in
theorem oX10_worthAt {l : Launch} {x : Ctx} (hl : l.stackTraces = false) (k : Nat) (hk : k < 11) (a1 : Int32)  (s0 : Mem) (Q : Int32 → Mem → Prop) (E : String → Mem → Prop) (h : wX10_worthAt k a1 s0 Q E) : MetG l x yX10_worthAt cX10_worthAt 3 (some .int) 1 21 0 0 [.ref (xad x 4 k), .int a1] s0 (RI Q) E := by
  refine MetG.of hl (by decide) (Nat.le_of_ble_eq_true rfl) [some (.ref (xad x 4 k)), some (.int a1), none] rfl (fun K B hx _ => ?_)
  subst hx
  unfold wX10_worthAt at h
  refine g_aload_n (np := 1) B.1 dX10_worthAt_0 rfl rfl ?_
  refine gf_YStock_30_4 (np := 4) B.1 k hk dX10_worthAt_1 rfl ?_
  refine g_iload_n (np := 5) B.1 dX10_worthAt_4 rfl rfl ?_
  refine gc_YStock_95 (np := 8) B (10 * k + 9) (lt_row hk (by decide)) (oX7_get B.1.tr (10 * k + 9) (lt_row hk (by decide)) a1  _ _ _ h) (Nat.le_of_ble_eq_true rfl) (Nat.le_of_ble_eq_true rfl) (Nat.le_of_ble_eq_true rfl) (Nat.le_of_ble_eq_true rfl) (Nat.le_of_ble_eq_true rfl) dX10_worthAt_5 rfl (fun r1 s2 h => ?_)
  refine g_istore_n (np := 9) (lv' := [some (.ref (xad (fX K) 4 k)), some (.int a1), some (.int r1)]) B.1 dX10_worthAt_8 (by decide) rfl rfl rfl ?_
  refine g_iload_n (np := 10) B.1 dX10_worthAt_9 rfl rfl ?_
  refine g_bipush (np := 12) (v := 10) B.1 dX10_worthAt_10 (by decide) rfl ?_
  refine g_icmp_lt (np := 15) (tgt := 21) B.1 dX10_worthAt_12 (by decide) rfl (fun q => ?_) (fun q => ?_)
  · replace h := h.1 q
    refine g_iload_n (np := 22) B.1 dX10_worthAt_21 rfl rfl ?_
    refine g_iconst (np := 23) (v := 2) B.1 dX10_worthAt_22 (by decide) rfl ?_
    refine g_imul (np := 24) B.1 dX10_worthAt_23 rfl ?_
    exact g_iret B (ty := .int) rfl rfl (Nat.le_of_ble_eq_true rfl) (Nat.le_of_ble_eq_true rfl) dX10_worthAt_24 ⟨_, rfl, h⟩
  · replace h := h.2 q
    refine g_iload_n (np := 16) B.1 dX10_worthAt_15 rfl rfl ?_
    refine g_iconst (np := 17) (v := 5) B.1 dX10_worthAt_16 (by decide) rfl ?_
    refine g_imul (np := 18) B.1 dX10_worthAt_17 rfl ?_
    refine g_goto (tgt := 24) B.1 dX10_worthAt_18 (by decide) ?_
    exact g_iret B (ty := .int) rfl rfl (Nat.le_of_ble_eq_true rfl) (Nat.le_of_ble_eq_true rfl) dX10_worthAt_24 ⟨_, rfl, h⟩
def wX10_sellAt (k : Nat) (a1 : Int32) (s0 : Mem) (Q : Int32 → Mem → Prop) (E : String → Mem → Prop) : Prop := wX10_worthAt k a1 s0 (fun (r1 : Int32) (s2 : Mem) => wX7_get (10 * k + 9) a1 s2 (fun (r3 : Int32) (s4 : Mem) => ∀ s5 : Mem, s5 = wr s4 4 k 11 ((rd s2 4 k 11) + r3) → ∀ s6 : Mem, s6 = wr s5 4 k 6 ((rd s5 4 k 6) + r1) → ∀ s7 : Mem, s7 = wr s6 4 k 8 ((rd s6 4 k 8) + r1) → wX7_removeAt (10 * k + 9) a1 s7 (fun (s9 : Mem) => Q r1 s9) E) E) E
set_option maxRecDepth 20000 in
set_option maxHeartbeats 4000000 in
theorem oX10_sellAt {l : Launch} {x : Ctx} (hl : l.stackTraces = false) (k : Nat) (hk : k < 11) (a1 : Int32)  (s0 : Mem) (Q : Int32 → Mem → Prop) (E : String → Mem → Prop) (h : wX10_sellAt k a1 s0 Q E) : MetG l x yX10_sellAt cX10_sellAt 3 (some .int) 2 43 0 0 [.ref (xad x 4 k), .int a1] s0 (RI Q) E := by
  refine MetG.of hl (by decide) (Nat.le_of_ble_eq_true rfl) [some (.ref (xad x 4 k)), some (.int a1), none] rfl (fun K B hx _ => ?_)
  subst hx
  unfold wX10_sellAt at h
  refine g_aload_n (np := 1) B.1 dX10_sellAt_0 rfl rfl ?_
  refine g_iload_n (np := 2) B.1 dX10_sellAt_1 rfl rfl ?_
  refine gc_YStock_144 (np := 5) B k hk (oX10_worthAt B.1.tr k hk a1  _ _ _ h) (Nat.le_of_ble_eq_true rfl) (Nat.le_of_ble_eq_true rfl) (Nat.le_of_ble_eq_true rfl) (Nat.le_of_ble_eq_true rfl) (Nat.le_of_ble_eq_true rfl) dX10_sellAt_2 rfl (fun r1 s2 h => ?_)
  refine g_istore_n (np := 6) (lv' := [some (.ref (xad (fX K) 4 k)), some (.int a1), some (.int r1)]) B.1 dX10_sellAt_5 (by decide) rfl rfl rfl ?_
  refine g_aload_n (np := 7) B.1 dX10_sellAt_6 rfl rfl ?_
  refine g_dup (np := 8) B.1 dX10_sellAt_7 rfl rfl ?_
  refine gf_YStock_147_4 (np := 11) B.1 k hk dX10_sellAt_8 rfl ?_
  refine g_aload_n (np := 12) B.1 dX10_sellAt_11 rfl rfl ?_
  refine gf_YStock_30_4 (np := 15) B.1 k hk dX10_sellAt_12 rfl ?_
  refine g_iload_n (np := 16) B.1 dX10_sellAt_15 rfl rfl ?_
  refine gc_YStock_95 (np := 19) B (10 * k + 9) (lt_row hk (by decide)) (oX7_get B.1.tr (10 * k + 9) (lt_row hk (by decide)) a1  _ _ _ h) (Nat.le_of_ble_eq_true rfl) (Nat.le_of_ble_eq_true rfl) (Nat.le_of_ble_eq_true rfl) (Nat.le_of_ble_eq_true rfl) (Nat.le_of_ble_eq_true rfl) dX10_sellAt_16 rfl (fun r3 s4 h => ?_)
  refine g_iadd (np := 20) B.1 dX10_sellAt_19 rfl ?_
  refine gp_YStock_147_4 (np := 23) B.1 k hk dX10_sellAt_20 rfl ?_
  refine g_mem (fun s5 es5 => ?_)
  replace h := h s5 es5
  refine g_aload_n (np := 24) B.1 dX10_sellAt_23 rfl rfl ?_
  refine g_dup (np := 25) B.1 dX10_sellAt_24 rfl rfl ?_
  refine gf_YStock_38_4 (np := 28) B.1 k hk dX10_sellAt_25 rfl ?_
  refine g_iload_n (np := 29) B.1 dX10_sellAt_28 rfl rfl ?_
  refine g_iadd (np := 30) B.1 dX10_sellAt_29 rfl ?_
  refine gp_YStock_38_4 (np := 33) B.1 k hk dX10_sellAt_30 rfl ?_
  refine g_mem (fun s6 es6 => ?_)
  replace h := h s6 es6
  refine g_aload_n (np := 34) B.1 dX10_sellAt_33 rfl rfl ?_
  refine g_dup (np := 35) B.1 dX10_sellAt_34 rfl rfl ?_
  refine gf_YStock_150_4 (np := 38) B.1 k hk dX10_sellAt_35 rfl ?_
  refine g_iload_n (np := 39) B.1 dX10_sellAt_38 rfl rfl ?_
  refine g_iadd (np := 40) B.1 dX10_sellAt_39 rfl ?_
  refine gp_YStock_150_4 (np := 43) B.1 k hk dX10_sellAt_40 rfl ?_
  refine g_mem (fun s7 es7 => ?_)
  replace h := h s7 es7
  refine g_aload_n (np := 44) B.1 dX10_sellAt_43 rfl rfl ?_
  refine gf_YStock_30_4 (np := 47) B.1 k hk dX10_sellAt_44 rfl ?_
  refine g_iload_n (np := 48) B.1 dX10_sellAt_47 rfl rfl ?_
  refine gc_YStock_132 (np := 51) B (10 * k + 9) (lt_row hk (by decide)) (oX7_removeAt B.1.tr (10 * k + 9) (lt_row hk (by decide)) a1  _ _ _ h) (Nat.le_of_ble_eq_true rfl) (Nat.le_of_ble_eq_true rfl) (Nat.le_of_ble_eq_true rfl) (Nat.le_of_ble_eq_true rfl) (Nat.le_of_ble_eq_true rfl) dX10_sellAt_48 rfl (fun s9 h => ?_)
  refine g_iload_n (np := 52) B.1 dX10_sellAt_51 rfl rfl ?_
  exact g_iret B (ty := .int) rfl rfl (Nat.le_of_ble_eq_true rfl) (Nat.le_of_ble_eq_true rfl) dX10_sellAt_52 ⟨_, rfl, h⟩
def wX10_accountedCoins (k : Nat)  (s0 : Mem) (Q : Int32 → Mem → Prop) (E : String → Mem → Prop) : Prop := Q ((1000 - (rd s0 4 k 7)) + (rd s0 4 k 8)) s0
set_option maxRecDepth 20000 in
set_option maxHeartbeats 4000000 in
theorem oX10_accountedCoins {l : Launch} {x : Ctx} (hl : l.stackTraces = false) (k : Nat) (hk : k < 11)   (s0 : Mem) (Q : Int32 → Mem → Prop) (E : String → Mem → Prop) (h : wX10_accountedCoins k  s0 Q E) : MetG l x yX10_accountedCoins cX10_accountedCoins 1 (some .int) 0 0 0 0 [.ref (xad x 4 k)] s0 (RI Q) E := by
  refine MetG.of hl (by decide) (Nat.le_of_ble_eq_true rfl) [some (.ref (xad x 4 k))] rfl (fun K B hx _ => ?_)
  subst hx
  unfold wX10_accountedCoins at h
  refine g_sipush (np := 3) (v := 1000) B.1 dX10_accountedCoins_0 (by decide) rfl ?_
  refine g_aload_n (np := 4) B.1 dX10_accountedCoins_3 rfl rfl ?_
  refine gf_YStock_67_4 (np := 7) B.1 k hk dX10_accountedCoins_4 rfl ?_
  refine g_isub (np := 8) B.1 dX10_accountedCoins_7 rfl ?_
  refine g_aload_n (np := 9) B.1 dX10_accountedCoins_8 rfl rfl ?_
  refine gf_YStock_150_4 (np := 12) B.1 k hk dX10_accountedCoins_9 rfl ?_
  refine g_iadd (np := 13) B.1 dX10_accountedCoins_12 rfl ?_
  exact g_iret B (ty := .int) rfl rfl (Nat.le_of_ble_eq_true rfl) (Nat.le_of_ble_eq_true rfl) dX10_accountedCoins_13 ⟨_, rfl, h⟩
def wX10_accountedLength (k : Nat)  (s0 : Mem) (Q : Int32 → Mem → Prop) (E : String → Mem → Prop) : Prop := Q (((rd s0 4 k 9) - (rd s0 4 k 11)) - (rd s0 4 k 10)) s0
set_option maxRecDepth 20000 in
set_option maxHeartbeats 4000000 in
theorem oX10_accountedLength {l : Launch} {x : Ctx} (hl : l.stackTraces = false) (k : Nat) (hk : k < 11)   (s0 : Mem) (Q : Int32 → Mem → Prop) (E : String → Mem → Prop) (h : wX10_accountedLength k  s0 Q E) : MetG l x yX10_accountedLength cX10_accountedLength 1 (some .int) 0 0 0 0 [.ref (xad x 4 k)] s0 (RI Q) E := by
  refine MetG.of hl (by decide) (Nat.le_of_ble_eq_true rfl) [some (.ref (xad x 4 k))] rfl (fun K B hx _ => ?_)
  subst hx
  unfold wX10_accountedLength at h
  refine g_aload_n (np := 1) B.1 dX10_accountedLength_0 rfl rfl ?_
  refine gf_YStock_116_4 (np := 4) B.1 k hk dX10_accountedLength_1 rfl ?_
  refine g_aload_n (np := 5) B.1 dX10_accountedLength_4 rfl rfl ?_
  refine gf_YStock_147_4 (np := 8) B.1 k hk dX10_accountedLength_5 rfl ?_
  refine g_isub (np := 9) B.1 dX10_accountedLength_8 rfl ?_
  refine g_aload_n (np := 10) B.1 dX10_accountedLength_9 rfl rfl ?_
  refine gf_YStock_135_4 (np := 13) B.1 k hk dX10_accountedLength_10 rfl ?_
  refine g_isub (np := 14) B.1 dX10_accountedLength_13 rfl ?_
  exact g_iret B (ty := .int) rfl rfl (Nat.le_of_ble_eq_true rfl) (Nat.le_of_ble_eq_true rfl) dX10_accountedLength_14 ⟨_, rfl, h⟩
def wX10_copyFrom (k : Nat) (k2 : Nat)  (s0 : Mem) (Q : Mem → Prop) (E : String → Mem → Prop) : Prop := wX1_copyFrom k k2  s0 (fun (s2 : Mem) => wX5_copyFrom k k2  s2 (fun (s4 : Mem) => wX7_copyFrom (10 * k + 9) (10 * k2 + 9)  s4 (fun (s6 : Mem) => ∀ s7 : Mem, s7 = wr s6 4 k 3 (rd s6 4 k2 3) → ∀ s8 : Mem, s8 = wr s7 4 k 4 (rd s7 4 k2 4) → ∀ s9 : Mem, s9 = wr s8 4 k 5 (rd s8 4 k2 5) → ∀ s10 : Mem, s10 = wr s9 4 k 6 (rd s9 4 k2 6) → ∀ s11 : Mem, s11 = wr s10 4 k 7 (rd s10 4 k2 7) → ∀ s12 : Mem, s12 = wr s11 4 k 8 (rd s11 4 k2 8) → ∀ s13 : Mem, s13 = wr s12 4 k 9 (rd s12 4 k2 9) → ∀ s14 : Mem, s14 = wr s13 4 k 10 (rd s13 4 k2 10) → ∀ s15 : Mem, s15 = wr s14 4 k 11 (rd s14 4 k2 11) → Q s15) E) E) E
set_option maxRecDepth 20000 in
set_option maxHeartbeats 4000000 in
theorem oX10_copyFrom {l : Launch} {x : Ctx} (hl : l.stackTraces = false) (k : Nat) (k2 : Nat) (hk : k < 11) (hk2 : k2 < 11)   (s0 : Mem) (Q : Mem → Prop) (E : String → Mem → Prop) (h : wX10_copyFrom k k2  s0 Q E) : MetG l x yX10_copyFrom cX10_copyFrom 2 none 3 102 0 0 [.ref (xad x 4 k), .ref (xad x 4 k2)] s0 (RV Q) E := by
  refine MetG.of hl (by decide) (Nat.le_of_ble_eq_true rfl) [some (.ref (xad x 4 k)), some (.ref (xad x 4 k2))] rfl (fun K B hx _ => ?_)
  subst hx
  unfold wX10_copyFrom at h
  refine g_aload_n (np := 1) B.1 dX10_copyFrom_0 rfl rfl ?_
  refine gf_YStock_12_4 (np := 4) B.1 k hk dX10_copyFrom_1 rfl ?_
  refine g_aload_n (np := 5) B.1 dX10_copyFrom_4 rfl rfl ?_
  refine gf_YStock_12_4 (np := 8) B.1 k2 hk2 dX10_copyFrom_5 rfl ?_
  refine gc_YStock_153 (np := 11) B k k2 hk hk2 (oX1_copyFrom B.1.tr k k2 hk hk2   _ _ _ h) (Nat.le_of_ble_eq_true rfl) (Nat.le_of_ble_eq_true rfl) (Nat.le_of_ble_eq_true rfl) (Nat.le_of_ble_eq_true rfl) (Nat.le_of_ble_eq_true rfl) dX10_copyFrom_8 rfl (fun s2 h => ?_)
  refine g_aload_n (np := 12) B.1 dX10_copyFrom_11 rfl rfl ?_
  refine gf_YStock_21_4 (np := 15) B.1 k hk dX10_copyFrom_12 rfl ?_
  refine g_aload_n (np := 16) B.1 dX10_copyFrom_15 rfl rfl ?_
  refine gf_YStock_21_4 (np := 19) B.1 k2 hk2 dX10_copyFrom_16 rfl ?_
  refine gc_YStock_157 (np := 22) B k k2 hk hk2 (oX5_copyFrom B.1.tr k k2 hk hk2   _ _ _ h) (Nat.le_of_ble_eq_true rfl) (Nat.le_of_ble_eq_true rfl) (Nat.le_of_ble_eq_true rfl) (Nat.le_of_ble_eq_true rfl) (Nat.le_of_ble_eq_true rfl) dX10_copyFrom_19 rfl (fun s4 h => ?_)
  refine g_aload_n (np := 23) B.1 dX10_copyFrom_22 rfl rfl ?_
  refine gf_YStock_30_4 (np := 26) B.1 k hk dX10_copyFrom_23 rfl ?_
  refine g_aload_n (np := 27) B.1 dX10_copyFrom_26 rfl rfl ?_
  refine gf_YStock_30_4 (np := 30) B.1 k2 hk2 dX10_copyFrom_27 rfl ?_
  refine gc_YStock_160 (np := 33) B (10 * k + 9) (10 * k2 + 9) (lt_row hk (by decide)) (lt_row hk2 (by decide)) (oX7_copyFrom B.1.tr (10 * k + 9) (10 * k2 + 9) (lt_row hk (by decide)) (lt_row hk2 (by decide))   _ _ _ h) (Nat.le_of_ble_eq_true rfl) (Nat.le_of_ble_eq_true rfl) (Nat.le_of_ble_eq_true rfl) (Nat.le_of_ble_eq_true rfl) (Nat.le_of_ble_eq_true rfl) dX10_copyFrom_30 rfl (fun s6 h => ?_)
  refine g_aload_n (np := 34) B.1 dX10_copyFrom_33 rfl rfl ?_
  refine g_aload_n (np := 35) B.1 dX10_copyFrom_34 rfl rfl ?_
  refine gf_YStock_74_4 (np := 38) B.1 k2 hk2 dX10_copyFrom_35 rfl ?_
  refine gp_YStock_74_4 (np := 41) B.1 k hk dX10_copyFrom_38 rfl ?_
  refine g_mem (fun s7 es7 => ?_)
  replace h := h s7 es7
  refine g_aload_n (np := 42) B.1 dX10_copyFrom_41 rfl rfl ?_
  refine g_aload_n (np := 43) B.1 dX10_copyFrom_42 rfl rfl ?_
  refine gf_YStock_34_4 (np := 46) B.1 k2 hk2 dX10_copyFrom_43 rfl ?_
  refine gp_YStock_34_4 (np := 49) B.1 k hk dX10_copyFrom_46 rfl ?_
  refine g_mem (fun s8 es8 => ?_)
  replace h := h s8 es8
  refine g_aload_n (np := 50) B.1 dX10_copyFrom_49 rfl rfl ?_
  refine g_aload_n (np := 51) B.1 dX10_copyFrom_50 rfl rfl ?_
  refine gf_YStock_119_4 (np := 54) B.1 k2 hk2 dX10_copyFrom_51 rfl ?_
  refine gp_YStock_119_4 (np := 57) B.1 k hk dX10_copyFrom_54 rfl ?_
  refine g_mem (fun s9 es9 => ?_)
  replace h := h s9 es9
  refine g_aload_n (np := 58) B.1 dX10_copyFrom_57 rfl rfl ?_
  refine g_aload_n (np := 59) B.1 dX10_copyFrom_58 rfl rfl ?_
  refine gf_YStock_38_4 (np := 62) B.1 k2 hk2 dX10_copyFrom_59 rfl ?_
  refine gp_YStock_38_4 (np := 65) B.1 k hk dX10_copyFrom_62 rfl ?_
  refine g_mem (fun s10 es10 => ?_)
  replace h := h s10 es10
  refine g_aload_n (np := 66) B.1 dX10_copyFrom_65 rfl rfl ?_
  refine g_aload_n (np := 67) B.1 dX10_copyFrom_66 rfl rfl ?_
  refine gf_YStock_67_4 (np := 70) B.1 k2 hk2 dX10_copyFrom_67 rfl ?_
  refine gp_YStock_67_4 (np := 73) B.1 k hk dX10_copyFrom_70 rfl ?_
  refine g_mem (fun s11 es11 => ?_)
  replace h := h s11 es11
  refine g_aload_n (np := 74) B.1 dX10_copyFrom_73 rfl rfl ?_
  refine g_aload_n (np := 75) B.1 dX10_copyFrom_74 rfl rfl ?_
  refine gf_YStock_150_4 (np := 78) B.1 k2 hk2 dX10_copyFrom_75 rfl ?_
  refine gp_YStock_150_4 (np := 81) B.1 k hk dX10_copyFrom_78 rfl ?_
  refine g_mem (fun s12 es12 => ?_)
  replace h := h s12 es12
  refine g_aload_n (np := 82) B.1 dX10_copyFrom_81 rfl rfl ?_
  refine g_aload_n (np := 83) B.1 dX10_copyFrom_82 rfl rfl ?_
  refine gf_YStock_116_4 (np := 86) B.1 k2 hk2 dX10_copyFrom_83 rfl ?_
  refine gp_YStock_116_4 (np := 89) B.1 k hk dX10_copyFrom_86 rfl ?_
  refine g_mem (fun s13 es13 => ?_)
  replace h := h s13 es13
  refine g_aload_n (np := 90) B.1 dX10_copyFrom_89 rfl rfl ?_
  refine g_aload_n (np := 91) B.1 dX10_copyFrom_90 rfl rfl ?_
  refine gf_YStock_135_4 (np := 94) B.1 k2 hk2 dX10_copyFrom_91 rfl ?_
  refine gp_YStock_135_4 (np := 97) B.1 k hk dX10_copyFrom_94 rfl ?_
  refine g_mem (fun s14 es14 => ?_)
  replace h := h s14 es14
  refine g_aload_n (np := 98) B.1 dX10_copyFrom_97 rfl rfl ?_
  refine g_aload_n (np := 99) B.1 dX10_copyFrom_98 rfl rfl ?_
  refine gf_YStock_147_4 (np := 102) B.1 k2 hk2 dX10_copyFrom_99 rfl ?_
  refine gp_YStock_147_4 (np := 105) B.1 k hk dX10_copyFrom_102 rfl ?_
  refine g_mem (fun s15 es15 => ?_)
  replace h := h s15 es15
  exact g_vret B rfl (Nat.le_of_ble_eq_true rfl) (Nat.le_of_ble_eq_true rfl) dX10_copyFrom_105 ⟨rfl, h⟩
