def wX13_isFirst  (a1 : Int32) (s0 : Mem) (Q : Int32 → Mem → Prop) (E : String → Mem → Prop) : Prop := ((a1 = 98 → Q 1 s0) ∧ (¬ a1 = 98 → ((a1 = 115 → Q 1 s0) ∧ (¬ a1 = 115 → ((a1 = 111 → Q 1 s0) ∧ (¬ a1 = 111 → ((a1 = 99 → Q 1 s0) ∧ (¬ a1 = 99 → ((a1 = 109 → Q 1 s0) ∧ (¬ a1 = 109 → ((¬ a1 = 106 → Q 0 s0) ∧ (a1 = 106 → Q 1 s0))))))))))))
set_option maxRecDepth 20000 in
set_option maxHeartbeats 4000000 in
theorem oX13_isFirst {l : Launch} {x : Ctx} (hl : l.stackTraces = false)   (a1 : Int32)  (s0 : Mem) (Q : Int32 → Mem → Prop) (E : String → Mem → Prop) (h : wX13_isFirst  a1 s0 Q E) : MetG l x yX13_isFirst cX13_isFirst 1 (some .boolean) 0 0 0 0 [.int a1] s0 (RI Q) E := by
  refine MetG.of hl (by decide) (Nat.le_of_ble_eq_true rfl) [some (.int a1)] rfl (fun K B hx _ => ?_)
  subst hx
  unfold wX13_isFirst at h
  refine g_iload_n (np := 1) B.1 dX13_isFirst_0 rfl rfl ?_
  refine g_bipush (np := 3) (v := 98) B.1 dX13_isFirst_1 (by decide) rfl ?_
  refine g_icmp_eq (np := 6) (tgt := 36) B.1 dX13_isFirst_3 (by decide) rfl (fun q => ?_) (fun q => ?_)
  · replace h := h.1 q
    refine g_iconst (np := 37) (v := 1) B.1 dX13_isFirst_36 (by decide) rfl ?_
    refine g_goto (tgt := 41) B.1 dX13_isFirst_37 (by decide) ?_
    exact g_iret B (ty := .boolean) rfl (by decide) (Nat.le_of_ble_eq_true rfl) (Nat.le_of_ble_eq_true rfl) dX13_isFirst_41 ⟨_, rfl, h⟩
  · replace h := h.2 q
    refine g_iload_n (np := 7) B.1 dX13_isFirst_6 rfl rfl ?_
    refine g_bipush (np := 9) (v := 115) B.1 dX13_isFirst_7 (by decide) rfl ?_
    refine g_icmp_eq (np := 12) (tgt := 36) B.1 dX13_isFirst_9 (by decide) rfl (fun q => ?_) (fun q => ?_)
    · replace h := h.1 q
      refine g_iconst (np := 37) (v := 1) B.1 dX13_isFirst_36 (by decide) rfl ?_
      refine g_goto (tgt := 41) B.1 dX13_isFirst_37 (by decide) ?_
      exact g_iret B (ty := .boolean) rfl (by decide) (Nat.le_of_ble_eq_true rfl) (Nat.le_of_ble_eq_true rfl) dX13_isFirst_41 ⟨_, rfl, h⟩
    · replace h := h.2 q
      refine g_iload_n (np := 13) B.1 dX13_isFirst_12 rfl rfl ?_
      refine g_bipush (np := 15) (v := 111) B.1 dX13_isFirst_13 (by decide) rfl ?_
      refine g_icmp_eq (np := 18) (tgt := 36) B.1 dX13_isFirst_15 (by decide) rfl (fun q => ?_) (fun q => ?_)
      · replace h := h.1 q
        refine g_iconst (np := 37) (v := 1) B.1 dX13_isFirst_36 (by decide) rfl ?_
        refine g_goto (tgt := 41) B.1 dX13_isFirst_37 (by decide) ?_
        exact g_iret B (ty := .boolean) rfl (by decide) (Nat.le_of_ble_eq_true rfl) (Nat.le_of_ble_eq_true rfl) dX13_isFirst_41 ⟨_, rfl, h⟩
      · replace h := h.2 q
        refine g_iload_n (np := 19) B.1 dX13_isFirst_18 rfl rfl ?_
        refine g_bipush (np := 21) (v := 99) B.1 dX13_isFirst_19 (by decide) rfl ?_
        refine g_icmp_eq (np := 24) (tgt := 36) B.1 dX13_isFirst_21 (by decide) rfl (fun q => ?_) (fun q => ?_)
        · replace h := h.1 q
          refine g_iconst (np := 37) (v := 1) B.1 dX13_isFirst_36 (by decide) rfl ?_
          refine g_goto (tgt := 41) B.1 dX13_isFirst_37 (by decide) ?_
          exact g_iret B (ty := .boolean) rfl (by decide) (Nat.le_of_ble_eq_true rfl) (Nat.le_of_ble_eq_true rfl) dX13_isFirst_41 ⟨_, rfl, h⟩
        · replace h := h.2 q
          refine g_iload_n (np := 25) B.1 dX13_isFirst_24 rfl rfl ?_
          refine g_bipush (np := 27) (v := 109) B.1 dX13_isFirst_25 (by decide) rfl ?_
          refine g_icmp_eq (np := 30) (tgt := 36) B.1 dX13_isFirst_27 (by decide) rfl (fun q => ?_) (fun q => ?_)
          · replace h := h.1 q
            refine g_iconst (np := 37) (v := 1) B.1 dX13_isFirst_36 (by decide) rfl ?_
            refine g_goto (tgt := 41) B.1 dX13_isFirst_37 (by decide) ?_
            exact g_iret B (ty := .boolean) rfl (by decide) (Nat.le_of_ble_eq_true rfl) (Nat.le_of_ble_eq_true rfl) dX13_isFirst_41 ⟨_, rfl, h⟩
          · replace h := h.2 q
            refine g_iload_n (np := 31) B.1 dX13_isFirst_30 rfl rfl ?_
            refine g_bipush (np := 33) (v := 106) B.1 dX13_isFirst_31 (by decide) rfl ?_
            refine g_icmp_ne (np := 36) (tgt := 40) B.1 dX13_isFirst_33 (by decide) rfl (fun q => ?_) (fun q => ?_)
            · replace h := h.1 q
              refine g_iconst (np := 41) (v := 0) B.1 dX13_isFirst_40 (by decide) rfl ?_
              exact g_iret B (ty := .boolean) rfl (by decide) (Nat.le_of_ble_eq_true rfl) (Nat.le_of_ble_eq_true rfl) dX13_isFirst_41 ⟨_, rfl, h⟩
            · replace h := h.2 q
              refine g_iconst (np := 37) (v := 1) B.1 dX13_isFirst_36 (by decide) rfl ?_
              refine g_goto (tgt := 41) B.1 dX13_isFirst_37 (by decide) ?_
              exact g_iret B (ty := .boolean) rfl (by decide) (Nat.le_of_ble_eq_true rfl) (Nat.le_of_ble_eq_true rfl) dX13_isFirst_41 ⟨_, rfl, h⟩
def wX13_does  (a1 : Int32) (s0 : Mem) (Q : Int32 → Mem → Prop) (E : String → Mem → Prop) : Prop := vp_in (a1 + 1) (iaLen 16) ∧ ∀ v2_1 : Int32, v2_1 = (rd s0 10 16 (a1 + 1).toNatClampNeg) → vp_in (a1 + 2) (iaLen 16) ∧ ∀ v3_2 : Int32, v3_2 = (rd s0 10 16 (a1 + 2).toNatClampNeg) → vp_in a1 (iaLen 16) ∧ ((rd s0 10 16 a1.toNatClampNeg = 98 → vp_in (a1 + 3) (iaLen 16) ∧ wX13_buys  v2_1 v3_2 (rd s0 10 16 (a1 + 3).toNatClampNeg) s0 (fun (r3 : Int32) (s4 : Mem) => Q r3 s4) E) ∧ (rd s0 10 16 a1.toNatClampNeg = 99 → wX13_cancels  v2_1 s0 (fun (r5 : Int32) (s6 : Mem) => Q r5 s6) E) ∧ (rd s0 10 16 a1.toNatClampNeg = 100 → wX13_joins   s0 (fun (r7 : Int32) (s8 : Mem) => Q r7 s8) E) ∧ (rd s0 10 16 a1.toNatClampNeg = 101 → wX13_joins   s0 (fun (r9 : Int32) (s10 : Mem) => Q r9 s10) E) ∧ (rd s0 10 16 a1.toNatClampNeg = 102 → wX13_joins   s0 (fun (r11 : Int32) (s12 : Mem) => Q r11 s12) E) ∧ (rd s0 10 16 a1.toNatClampNeg = 103 → wX13_joins   s0 (fun (r13 : Int32) (s14 : Mem) => Q r13 s14) E) ∧ (rd s0 10 16 a1.toNatClampNeg = 104 → wX13_joins   s0 (fun (r15 : Int32) (s16 : Mem) => Q r15 s16) E) ∧ (rd s0 10 16 a1.toNatClampNeg = 105 → wX13_spins  v2_1 s0 (fun (r17 : Int32) (s18 : Mem) => Q r17 s18) E) ∧ (rd s0 10 16 a1.toNatClampNeg = 106 → wX13_joins   s0 (fun (r19 : Int32) (s20 : Mem) => Q r19 s20) E) ∧ (rd s0 10 16 a1.toNatClampNeg = 107 → wX13_joins   s0 (fun (r21 : Int32) (s22 : Mem) => Q r21 s22) E) ∧ (rd s0 10 16 a1.toNatClampNeg = 108 → wX13_blends  v2_1 v3_2 s0 (fun (r23 : Int32) (s24 : Mem) => Q r23 s24) E) ∧ (rd s0 10 16 a1.toNatClampNeg = 109 → wX13_has  v2_1 s0 (fun (r25 : Int32) (s26 : Mem) => Q r25 s26) E) ∧ (rd s0 10 16 a1.toNatClampNeg = 110 → wX13_joins   s0 (fun (r27 : Int32) (s28 : Mem) => Q r27 s28) E) ∧ (rd s0 10 16 a1.toNatClampNeg = 111 → wX13_opens  v2_1 v3_2 s0 (fun (r29 : Int32) (s30 : Mem) => Q r29 s30) E) ∧ (rd s0 10 16 a1.toNatClampNeg = 112 → wX13_splices  v2_1 s0 (fun (r31 : Int32) (s32 : Mem) => Q r31 s32) E) ∧ (rd s0 10 16 a1.toNatClampNeg = 113 → wX13_joins   s0 (fun (r33 : Int32) (s34 : Mem) => Q r33 s34) E) ∧ (rd s0 10 16 a1.toNatClampNeg = 114 → wX13_joins   s0 (fun (r35 : Int32) (s36 : Mem) => Q r35 s36) E) ∧ (rd s0 10 16 a1.toNatClampNeg = 115 → wX13_sells  v2_1 s0 (fun (r37 : Int32) (s38 : Mem) => Q r37 s38) E) ∧ (¬ rd s0 10 16 a1.toNatClampNeg = 98 ∧ ¬ rd s0 10 16 a1.toNatClampNeg = 99 ∧ ¬ rd s0 10 16 a1.toNatClampNeg = 100 ∧ ¬ rd s0 10 16 a1.toNatClampNeg = 101 ∧ ¬ rd s0 10 16 a1.toNatClampNeg = 102 ∧ ¬ rd s0 10 16 a1.toNatClampNeg = 103 ∧ ¬ rd s0 10 16 a1.toNatClampNeg = 104 ∧ ¬ rd s0 10 16 a1.toNatClampNeg = 105 ∧ ¬ rd s0 10 16 a1.toNatClampNeg = 106 ∧ ¬ rd s0 10 16 a1.toNatClampNeg = 107 ∧ ¬ rd s0 10 16 a1.toNatClampNeg = 108 ∧ ¬ rd s0 10 16 a1.toNatClampNeg = 109 ∧ ¬ rd s0 10 16 a1.toNatClampNeg = 110 ∧ ¬ rd s0 10 16 a1.toNatClampNeg = 111 ∧ ¬ rd s0 10 16 a1.toNatClampNeg = 112 ∧ ¬ rd s0 10 16 a1.toNatClampNeg = 113 ∧ ¬ rd s0 10 16 a1.toNatClampNeg = 114 ∧ ¬ rd s0 10 16 a1.toNatClampNeg = 115 → wX13_joins   s0 (fun (r39 : Int32) (s40 : Mem) => Q r39 s40) E))
set_option maxRecDepth 20000 in
set_option maxHeartbeats 4000000 in
theorem oX13_does {l : Launch} {x : Ctx} (hl : l.stackTraces = false)   (a1 : Int32)  (s0 : Mem) (Q : Int32 → Mem → Prop) (E : String → Mem → Prop) (h : wX13_does  a1 s0 Q E) : MetG l x yX13_does cX13_does 4 (some .int) 5 119 0 0 [.ref (xad x 15 0), .int a1] s0 (RI Q) E := by
  refine MetG.of hl (by decide) (Nat.le_of_ble_eq_true rfl) [some (.ref (xad x 15 0)), some (.int a1), none, none] rfl (fun K B hx _ => ?_)
  subst hx
  unfold wX13_does at h
  refine g_aload_n (np := 1) B.1 dX13_does_0 rfl rfl ?_
  refine gf_YModel_41_15 (np := 4) B.1 dX13_does_1 rfl ?_
  refine g_iload_n (np := 5) B.1 dX13_does_4 rfl rfl ?_
  refine g_iconst (np := 6) (v := 1) B.1 dX13_does_5 (by decide) rfl ?_
  refine g_iadd (np := 7) B.1 dX13_does_6 rfl ?_
  refine g_iald (np := 8) B.1 10 16 (by decide) rfl rfl h.1 dX13_does_7 rfl ?_
  replace h := h.2
  refine g_topi (fun v2_1 ev2_1 => ?_)
  replace h := h v2_1 ev2_1
  refine g_istore_n (np := 9) (lv' := [some (.ref (xad (fX K) 15 0)), some (.int a1), some (.int v2_1), none]) B.1 dX13_does_8 (by decide) rfl rfl rfl ?_
  refine g_aload_n (np := 10) B.1 dX13_does_9 rfl rfl ?_
  refine gf_YModel_41_15 (np := 13) B.1 dX13_does_10 rfl ?_
  refine g_iload_n (np := 14) B.1 dX13_does_13 rfl rfl ?_
  refine g_iconst (np := 15) (v := 2) B.1 dX13_does_14 (by decide) rfl ?_
  refine g_iadd (np := 16) B.1 dX13_does_15 rfl ?_
  refine g_iald (np := 17) B.1 10 16 (by decide) rfl rfl h.1 dX13_does_16 rfl ?_
  replace h := h.2
  refine g_topi (fun v3_2 ev3_2 => ?_)
  replace h := h v3_2 ev3_2
  refine g_istore_n (np := 18) (lv' := [some (.ref (xad (fX K) 15 0)), some (.int a1), some (.int v2_1), some (.int v3_2)]) B.1 dX13_does_17 (by decide) rfl rfl rfl ?_
  refine g_aload_n (np := 19) B.1 dX13_does_18 rfl rfl ?_
  refine gf_YModel_41_15 (np := 22) B.1 dX13_does_19 rfl ?_
  refine g_iload_n (np := 23) B.1 dX13_does_22 rfl rfl ?_
  refine g_iald (np := 24) B.1 10 16 (by decide) rfl rfl h.1 dX13_does_23 rfl ?_
  replace h := h.2
  by_cases e9 : rd s0 10 16 a1.toNatClampNeg = 98
  · replace h := h.1 e9
    refine g_tabIn (off := _) (tgt := 112) B.1 dX13_does_24 (by rw [e9]; decide) (by rw [e9]; decide) (by rw [e9]; rfl) (by decide) ?_
    refine g_aload_n (np := 113) B.1 dX13_does_112 rfl rfl ?_
    refine g_iload_n (np := 114) B.1 dX13_does_113 rfl rfl ?_
    refine g_iload_n (np := 115) B.1 dX13_does_114 rfl rfl ?_
    refine g_aload_n (np := 116) B.1 dX13_does_115 rfl rfl ?_
    refine gf_YModel_41_15 (np := 119) B.1 dX13_does_116 rfl ?_
    refine g_iload_n (np := 120) B.1 dX13_does_119 rfl rfl ?_
    refine g_iconst (np := 121) (v := 3) B.1 dX13_does_120 (by decide) rfl ?_
    refine g_iadd (np := 122) B.1 dX13_does_121 rfl ?_
    refine g_iald (np := 123) B.1 10 16 (by decide) rfl rfl h.1 dX13_does_122 rfl ?_
    replace h := h.2
    refine gc_YModel_72 (np := 126) B   (oX13_buys B.1.tr   v2_1 v3_2 (rd s0 10 16 (a1 + 3).toNatClampNeg)  _ _ _ h) (Nat.le_of_ble_eq_true rfl) (Nat.le_of_ble_eq_true rfl) (Nat.le_of_ble_eq_true rfl) (Nat.le_of_ble_eq_true rfl) (Nat.le_of_ble_eq_true rfl) dX13_does_123 rfl (fun r3 s4 h => ?_)
    exact g_iret B (ty := .int) rfl rfl (Nat.le_of_ble_eq_true rfl) (Nat.le_of_ble_eq_true rfl) dX13_does_126 ⟨_, rfl, h⟩
  have n_98 := e9
  clear e9
  by_cases e9 : rd s0 10 16 a1.toNatClampNeg = 99
  · replace h := h.2.1 e9
    refine g_tabIn (off := _) (tgt := 159) B.1 dX13_does_24 (by rw [e9]; decide) (by rw [e9]; decide) (by rw [e9]; rfl) (by decide) ?_
    refine g_aload_n (np := 160) B.1 dX13_does_159 rfl rfl ?_
    refine g_iload_n (np := 161) B.1 dX13_does_160 rfl rfl ?_
    refine gc_YModel_106 (np := 164) B   (oX13_cancels B.1.tr   v2_1  _ _ _ h) (Nat.le_of_ble_eq_true rfl) (Nat.le_of_ble_eq_true rfl) (Nat.le_of_ble_eq_true rfl) (Nat.le_of_ble_eq_true rfl) (Nat.le_of_ble_eq_true rfl) dX13_does_161 rfl (fun r5 s6 h => ?_)
    exact g_iret B (ty := .int) rfl rfl (Nat.le_of_ble_eq_true rfl) (Nat.le_of_ble_eq_true rfl) dX13_does_164 ⟨_, rfl, h⟩
  have n_99 := e9
  clear e9
  by_cases e9 : rd s0 10 16 a1.toNatClampNeg = 100
  · replace h := h.2.2.1 e9
    refine g_tabIn (off := _) (tgt := 171) B.1 dX13_does_24 (by rw [e9]; decide) (by rw [e9]; decide) (by rw [e9]; rfl) (by decide) ?_
    refine g_aload_n (np := 172) B.1 dX13_does_171 rfl rfl ?_
    refine gc_YModel_133 (np := 175) B   (oX13_joins B.1.tr     _ _ _ h) (Nat.le_of_ble_eq_true rfl) (Nat.le_of_ble_eq_true rfl) (Nat.le_of_ble_eq_true rfl) (Nat.le_of_ble_eq_true rfl) (Nat.le_of_ble_eq_true rfl) dX13_does_172 rfl (fun r7 s8 h => ?_)
    exact g_iret B (ty := .int) rfl rfl (Nat.le_of_ble_eq_true rfl) (Nat.le_of_ble_eq_true rfl) dX13_does_175 ⟨_, rfl, h⟩
  have n_100 := e9
  clear e9
  by_cases e9 : rd s0 10 16 a1.toNatClampNeg = 101
  · replace h := h.2.2.2.1 e9
    refine g_tabIn (off := _) (tgt := 171) B.1 dX13_does_24 (by rw [e9]; decide) (by rw [e9]; decide) (by rw [e9]; rfl) (by decide) ?_
    refine g_aload_n (np := 172) B.1 dX13_does_171 rfl rfl ?_
    refine gc_YModel_133 (np := 175) B   (oX13_joins B.1.tr     _ _ _ h) (Nat.le_of_ble_eq_true rfl) (Nat.le_of_ble_eq_true rfl) (Nat.le_of_ble_eq_true rfl) (Nat.le_of_ble_eq_true rfl) (Nat.le_of_ble_eq_true rfl) dX13_does_172 rfl (fun r9 s10 h => ?_)
    exact g_iret B (ty := .int) rfl rfl (Nat.le_of_ble_eq_true rfl) (Nat.le_of_ble_eq_true rfl) dX13_does_175 ⟨_, rfl, h⟩
  have n_101 := e9
  clear e9
  by_cases e9 : rd s0 10 16 a1.toNatClampNeg = 102
  · replace h := h.2.2.2.2.1 e9
    refine g_tabIn (off := _) (tgt := 171) B.1 dX13_does_24 (by rw [e9]; decide) (by rw [e9]; decide) (by rw [e9]; rfl) (by decide) ?_
    refine g_aload_n (np := 172) B.1 dX13_does_171 rfl rfl ?_
    refine gc_YModel_133 (np := 175) B   (oX13_joins B.1.tr     _ _ _ h) (Nat.le_of_ble_eq_true rfl) (Nat.le_of_ble_eq_true rfl) (Nat.le_of_ble_eq_true rfl) (Nat.le_of_ble_eq_true rfl) (Nat.le_of_ble_eq_true rfl) dX13_does_172 rfl (fun r11 s12 h => ?_)
    exact g_iret B (ty := .int) rfl rfl (Nat.le_of_ble_eq_true rfl) (Nat.le_of_ble_eq_true rfl) dX13_does_175 ⟨_, rfl, h⟩
  have n_102 := e9
  clear e9
  by_cases e9 : rd s0 10 16 a1.toNatClampNeg = 103
  · replace h := h.2.2.2.2.2.1 e9
    refine g_tabIn (off := _) (tgt := 171) B.1 dX13_does_24 (by rw [e9]; decide) (by rw [e9]; decide) (by rw [e9]; rfl) (by decide) ?_
    refine g_aload_n (np := 172) B.1 dX13_does_171 rfl rfl ?_
    refine gc_YModel_133 (np := 175) B   (oX13_joins B.1.tr     _ _ _ h) (Nat.le_of_ble_eq_true rfl) (Nat.le_of_ble_eq_true rfl) (Nat.le_of_ble_eq_true rfl) (Nat.le_of_ble_eq_true rfl) (Nat.le_of_ble_eq_true rfl) dX13_does_172 rfl (fun r13 s14 h => ?_)
    exact g_iret B (ty := .int) rfl rfl (Nat.le_of_ble_eq_true rfl) (Nat.le_of_ble_eq_true rfl) dX13_does_175 ⟨_, rfl, h⟩
  have n_103 := e9
  clear e9
  by_cases e9 : rd s0 10 16 a1.toNatClampNeg = 104
  · replace h := h.2.2.2.2.2.2.1 e9
    refine g_tabIn (off := _) (tgt := 171) B.1 dX13_does_24 (by rw [e9]; decide) (by rw [e9]; decide) (by rw [e9]; rfl) (by decide) ?_
    refine g_aload_n (np := 172) B.1 dX13_does_171 rfl rfl ?_
    refine gc_YModel_133 (np := 175) B   (oX13_joins B.1.tr     _ _ _ h) (Nat.le_of_ble_eq_true rfl) (Nat.le_of_ble_eq_true rfl) (Nat.le_of_ble_eq_true rfl) (Nat.le_of_ble_eq_true rfl) (Nat.le_of_ble_eq_true rfl) dX13_does_172 rfl (fun r15 s16 h => ?_)
    exact g_iret B (ty := .int) rfl rfl (Nat.le_of_ble_eq_true rfl) (Nat.le_of_ble_eq_true rfl) dX13_does_175 ⟨_, rfl, h⟩
  have n_104 := e9
  clear e9
  by_cases e9 : rd s0 10 16 a1.toNatClampNeg = 105
  · replace h := h.2.2.2.2.2.2.2.1 e9
    refine g_tabIn (off := _) (tgt := 140) B.1 dX13_does_24 (by rw [e9]; decide) (by rw [e9]; decide) (by rw [e9]; rfl) (by decide) ?_
    refine g_aload_n (np := 141) B.1 dX13_does_140 rfl rfl ?_
    refine g_iload_n (np := 142) B.1 dX13_does_141 rfl rfl ?_
    refine gc_YModel_115 (np := 145) B   (oX13_spins B.1.tr   v2_1  _ _ _ h) (Nat.le_of_ble_eq_true rfl) (Nat.le_of_ble_eq_true rfl) (Nat.le_of_ble_eq_true rfl) (Nat.le_of_ble_eq_true rfl) (Nat.le_of_ble_eq_true rfl) dX13_does_142 rfl (fun r17 s18 h => ?_)
    exact g_iret B (ty := .int) rfl rfl (Nat.le_of_ble_eq_true rfl) (Nat.le_of_ble_eq_true rfl) dX13_does_145 ⟨_, rfl, h⟩
  have n_105 := e9
  clear e9
  by_cases e9 : rd s0 10 16 a1.toNatClampNeg = 106
  · replace h := h.2.2.2.2.2.2.2.2.1 e9
    refine g_tabIn (off := _) (tgt := 171) B.1 dX13_does_24 (by rw [e9]; decide) (by rw [e9]; decide) (by rw [e9]; rfl) (by decide) ?_
    refine g_aload_n (np := 172) B.1 dX13_does_171 rfl rfl ?_
    refine gc_YModel_133 (np := 175) B   (oX13_joins B.1.tr     _ _ _ h) (Nat.le_of_ble_eq_true rfl) (Nat.le_of_ble_eq_true rfl) (Nat.le_of_ble_eq_true rfl) (Nat.le_of_ble_eq_true rfl) (Nat.le_of_ble_eq_true rfl) dX13_does_172 rfl (fun r19 s20 h => ?_)
    exact g_iret B (ty := .int) rfl rfl (Nat.le_of_ble_eq_true rfl) (Nat.le_of_ble_eq_true rfl) dX13_does_175 ⟨_, rfl, h⟩
  have n_106 := e9
  clear e9
  by_cases e9 : rd s0 10 16 a1.toNatClampNeg = 107
  · replace h := h.2.2.2.2.2.2.2.2.2.1 e9
    refine g_tabIn (off := _) (tgt := 171) B.1 dX13_does_24 (by rw [e9]; decide) (by rw [e9]; decide) (by rw [e9]; rfl) (by decide) ?_
    refine g_aload_n (np := 172) B.1 dX13_does_171 rfl rfl ?_
    refine gc_YModel_133 (np := 175) B   (oX13_joins B.1.tr     _ _ _ h) (Nat.le_of_ble_eq_true rfl) (Nat.le_of_ble_eq_true rfl) (Nat.le_of_ble_eq_true rfl) (Nat.le_of_ble_eq_true rfl) (Nat.le_of_ble_eq_true rfl) dX13_does_172 rfl (fun r21 s22 h => ?_)
    exact g_iret B (ty := .int) rfl rfl (Nat.le_of_ble_eq_true rfl) (Nat.le_of_ble_eq_true rfl) dX13_does_175 ⟨_, rfl, h⟩
  have n_107 := e9
  clear e9
  by_cases e9 : rd s0 10 16 a1.toNatClampNeg = 108
  · replace h := h.2.2.2.2.2.2.2.2.2.2.1 e9
    refine g_tabIn (off := _) (tgt := 127) B.1 dX13_does_24 (by rw [e9]; decide) (by rw [e9]; decide) (by rw [e9]; rfl) (by decide) ?_
    refine g_aload_n (np := 128) B.1 dX13_does_127 rfl rfl ?_
    refine g_iload_n (np := 129) B.1 dX13_does_128 rfl rfl ?_
    refine g_iload_n (np := 130) B.1 dX13_does_129 rfl rfl ?_
    refine gc_YModel_97 (np := 133) B   (oX13_blends B.1.tr   v2_1 v3_2  _ _ _ h) (Nat.le_of_ble_eq_true rfl) (Nat.le_of_ble_eq_true rfl) (Nat.le_of_ble_eq_true rfl) (Nat.le_of_ble_eq_true rfl) (Nat.le_of_ble_eq_true rfl) dX13_does_130 rfl (fun r23 s24 h => ?_)
    exact g_iret B (ty := .int) rfl rfl (Nat.le_of_ble_eq_true rfl) (Nat.le_of_ble_eq_true rfl) dX13_does_133 ⟨_, rfl, h⟩
  have n_108 := e9
  clear e9
  by_cases e9 : rd s0 10 16 a1.toNatClampNeg = 109
  · replace h := h.2.2.2.2.2.2.2.2.2.2.2.1 e9
    refine g_tabIn (off := _) (tgt := 165) B.1 dX13_does_24 (by rw [e9]; decide) (by rw [e9]; decide) (by rw [e9]; rfl) (by decide) ?_
    refine g_aload_n (np := 166) B.1 dX13_does_165 rfl rfl ?_
    refine g_iload_n (np := 167) B.1 dX13_does_166 rfl rfl ?_
    refine gc_YModel_109 (np := 170) B   (oX13_has B.1.tr   v2_1  _ _ _ h) (Nat.le_of_ble_eq_true rfl) (Nat.le_of_ble_eq_true rfl) (Nat.le_of_ble_eq_true rfl) (Nat.le_of_ble_eq_true rfl) (Nat.le_of_ble_eq_true rfl) dX13_does_167 rfl (fun r25 s26 h => ?_)
    exact g_iret B (ty := .int) rfl rfl (Nat.le_of_ble_eq_true rfl) (Nat.le_of_ble_eq_true rfl) dX13_does_170 ⟨_, rfl, h⟩
  have n_109 := e9
  clear e9
  by_cases e9 : rd s0 10 16 a1.toNatClampNeg = 110
  · replace h := h.2.2.2.2.2.2.2.2.2.2.2.2.1 e9
    refine g_tabIn (off := _) (tgt := 171) B.1 dX13_does_24 (by rw [e9]; decide) (by rw [e9]; decide) (by rw [e9]; rfl) (by decide) ?_
    refine g_aload_n (np := 172) B.1 dX13_does_171 rfl rfl ?_
    refine gc_YModel_133 (np := 175) B   (oX13_joins B.1.tr     _ _ _ h) (Nat.le_of_ble_eq_true rfl) (Nat.le_of_ble_eq_true rfl) (Nat.le_of_ble_eq_true rfl) (Nat.le_of_ble_eq_true rfl) (Nat.le_of_ble_eq_true rfl) dX13_does_172 rfl (fun r27 s28 h => ?_)
    exact g_iret B (ty := .int) rfl rfl (Nat.le_of_ble_eq_true rfl) (Nat.le_of_ble_eq_true rfl) dX13_does_175 ⟨_, rfl, h⟩
  have n_110 := e9
  clear e9
  by_cases e9 : rd s0 10 16 a1.toNatClampNeg = 111
  · replace h := h.2.2.2.2.2.2.2.2.2.2.2.2.2.1 e9
    refine g_tabIn (off := _) (tgt := 152) B.1 dX13_does_24 (by rw [e9]; decide) (by rw [e9]; decide) (by rw [e9]; rfl) (by decide) ?_
    refine g_aload_n (np := 153) B.1 dX13_does_152 rfl rfl ?_
    refine g_iload_n (np := 154) B.1 dX13_does_153 rfl rfl ?_
    refine g_iload_n (np := 155) B.1 dX13_does_154 rfl rfl ?_
    refine gc_YModel_100 (np := 158) B   (oX13_opens B.1.tr   v2_1 v3_2  _ _ _ h) (Nat.le_of_ble_eq_true rfl) (Nat.le_of_ble_eq_true rfl) (Nat.le_of_ble_eq_true rfl) (Nat.le_of_ble_eq_true rfl) (Nat.le_of_ble_eq_true rfl) dX13_does_155 rfl (fun r29 s30 h => ?_)
    exact g_iret B (ty := .int) rfl rfl (Nat.le_of_ble_eq_true rfl) (Nat.le_of_ble_eq_true rfl) dX13_does_158 ⟨_, rfl, h⟩
  have n_111 := e9
  clear e9
  by_cases e9 : rd s0 10 16 a1.toNatClampNeg = 112
  · replace h := h.2.2.2.2.2.2.2.2.2.2.2.2.2.2.1 e9
    refine g_tabIn (off := _) (tgt := 146) B.1 dX13_does_24 (by rw [e9]; decide) (by rw [e9]; decide) (by rw [e9]; rfl) (by decide) ?_
    refine g_aload_n (np := 147) B.1 dX13_does_146 rfl rfl ?_
    refine g_iload_n (np := 148) B.1 dX13_does_147 rfl rfl ?_
    refine gc_YModel_122 (np := 151) B   (oX13_splices B.1.tr   v2_1  _ _ _ h) (Nat.le_of_ble_eq_true rfl) (Nat.le_of_ble_eq_true rfl) (Nat.le_of_ble_eq_true rfl) (Nat.le_of_ble_eq_true rfl) (Nat.le_of_ble_eq_true rfl) dX13_does_148 rfl (fun r31 s32 h => ?_)
    exact g_iret B (ty := .int) rfl rfl (Nat.le_of_ble_eq_true rfl) (Nat.le_of_ble_eq_true rfl) dX13_does_151 ⟨_, rfl, h⟩
  have n_112 := e9
  clear e9
  by_cases e9 : rd s0 10 16 a1.toNatClampNeg = 113
  · replace h := h.2.2.2.2.2.2.2.2.2.2.2.2.2.2.2.1 e9
    refine g_tabIn (off := _) (tgt := 171) B.1 dX13_does_24 (by rw [e9]; decide) (by rw [e9]; decide) (by rw [e9]; rfl) (by decide) ?_
    refine g_aload_n (np := 172) B.1 dX13_does_171 rfl rfl ?_
    refine gc_YModel_133 (np := 175) B   (oX13_joins B.1.tr     _ _ _ h) (Nat.le_of_ble_eq_true rfl) (Nat.le_of_ble_eq_true rfl) (Nat.le_of_ble_eq_true rfl) (Nat.le_of_ble_eq_true rfl) (Nat.le_of_ble_eq_true rfl) dX13_does_172 rfl (fun r33 s34 h => ?_)
    exact g_iret B (ty := .int) rfl rfl (Nat.le_of_ble_eq_true rfl) (Nat.le_of_ble_eq_true rfl) dX13_does_175 ⟨_, rfl, h⟩
  have n_113 := e9
  clear e9
  by_cases e9 : rd s0 10 16 a1.toNatClampNeg = 114
  · replace h := h.2.2.2.2.2.2.2.2.2.2.2.2.2.2.2.2.1 e9
    refine g_tabIn (off := _) (tgt := 171) B.1 dX13_does_24 (by rw [e9]; decide) (by rw [e9]; decide) (by rw [e9]; rfl) (by decide) ?_
    refine g_aload_n (np := 172) B.1 dX13_does_171 rfl rfl ?_
    refine gc_YModel_133 (np := 175) B   (oX13_joins B.1.tr     _ _ _ h) (Nat.le_of_ble_eq_true rfl) (Nat.le_of_ble_eq_true rfl) (Nat.le_of_ble_eq_true rfl) (Nat.le_of_ble_eq_true rfl) (Nat.le_of_ble_eq_true rfl) dX13_does_172 rfl (fun r35 s36 h => ?_)
    exact g_iret B (ty := .int) rfl rfl (Nat.le_of_ble_eq_true rfl) (Nat.le_of_ble_eq_true rfl) dX13_does_175 ⟨_, rfl, h⟩
  have n_114 := e9
  clear e9
  by_cases e9 : rd s0 10 16 a1.toNatClampNeg = 115
  · replace h := h.2.2.2.2.2.2.2.2.2.2.2.2.2.2.2.2.2.1 e9
    refine g_tabIn (off := _) (tgt := 134) B.1 dX13_does_24 (by rw [e9]; decide) (by rw [e9]; decide) (by rw [e9]; rfl) (by decide) ?_
    refine g_aload_n (np := 135) B.1 dX13_does_134 rfl rfl ?_
    refine g_iload_n (np := 136) B.1 dX13_does_135 rfl rfl ?_
    refine gc_YModel_139 (np := 139) B   (oX13_sells B.1.tr   v2_1  _ _ _ h) (Nat.le_of_ble_eq_true rfl) (Nat.le_of_ble_eq_true rfl) (Nat.le_of_ble_eq_true rfl) (Nat.le_of_ble_eq_true rfl) (Nat.le_of_ble_eq_true rfl) dX13_does_136 rfl (fun r37 s38 h => ?_)
    exact g_iret B (ty := .int) rfl rfl (Nat.le_of_ble_eq_true rfl) (Nat.le_of_ble_eq_true rfl) dX13_does_139 ⟨_, rfl, h⟩
  have n_115 := e9
  clear e9
  replace h := h.2.2.2.2.2.2.2.2.2.2.2.2.2.2.2.2.2.2 ⟨n_98, n_99, n_100, n_101, n_102, n_103, n_104, n_105, n_106, n_107, n_108, n_109, n_110, n_111, n_112, n_113, n_114, n_115⟩
  have key : Go K 0 0 s0 171 [some (.ref (xad (fX K) 15 0)), some (.int a1), some (.int v2_1), some (.int v3_2)] ([]) := by
    refine g_aload_n (np := 172) B.1 dX13_does_171 rfl rfl ?_
    refine gc_YModel_133 (np := 175) B   (oX13_joins B.1.tr     _ _ _ h) (Nat.le_of_ble_eq_true rfl) (Nat.le_of_ble_eq_true rfl) (Nat.le_of_ble_eq_true rfl) (Nat.le_of_ble_eq_true rfl) (Nat.le_of_ble_eq_true rfl) dX13_does_172 rfl (fun r39 s40 h => ?_)
    exact g_iret B (ty := .int) rfl rfl (Nat.le_of_ble_eq_true rfl) (Nat.le_of_ble_eq_true rfl) dX13_does_175 ⟨_, rfl, h⟩
  have o_98 := i32_ne n_98 (n := 98) (by decide)
  have o_99 := i32_ne n_99 (n := 99) (by decide)
  have o_100 := i32_ne n_100 (n := 100) (by decide)
  have o_101 := i32_ne n_101 (n := 101) (by decide)
  have o_102 := i32_ne n_102 (n := 102) (by decide)
  have o_103 := i32_ne n_103 (n := 103) (by decide)
  have o_104 := i32_ne n_104 (n := 104) (by decide)
  have o_105 := i32_ne n_105 (n := 105) (by decide)
  have o_106 := i32_ne n_106 (n := 106) (by decide)
  have o_107 := i32_ne n_107 (n := 107) (by decide)
  have o_108 := i32_ne n_108 (n := 108) (by decide)
  have o_109 := i32_ne n_109 (n := 109) (by decide)
  have o_110 := i32_ne n_110 (n := 110) (by decide)
  have o_111 := i32_ne n_111 (n := 111) (by decide)
  have o_112 := i32_ne n_112 (n := 112) (by decide)
  have o_113 := i32_ne n_113 (n := 113) (by decide)
  have o_114 := i32_ne n_114 (n := 114) (by decide)
  have o_115 := i32_ne n_115 (n := 115) (by decide)
  exact g_tabOut (tgt := 171) B.1 dX13_does_24 (by omega) (by decide) key
def wX13_errorPosition   (s0 : Mem) (Q : Int32 → Mem → Prop) (E : String → Mem → Prop) : Prop := ((0 ≤ rd s0 15 0 8 → wX13_isThrown  0 1 s0 (fun (r1 : Int32) (s2 : Mem) => ((r1 = 0 → Q (rd s2 15 0 8) s2) ∧ (¬ r1 = 0 → Q 0 s2))) E) ∧ (¬ 0 ≤ rd s0 15 0 8 → wX13_isThrown  1 1 s0 (fun (r3 : Int32) (s4 : Mem) => ((r3 = 0 → Q (rd s4 15 0 8) s4) ∧ (¬ r3 = 0 → Q 0 s4))) E))
set_option maxRecDepth 20000 in
set_option maxHeartbeats 4000000 in
theorem oX13_errorPosition {l : Launch} {x : Ctx} (hl : l.stackTraces = false)     (s0 : Mem) (Q : Int32 → Mem → Prop) (E : String → Mem → Prop) (h : wX13_errorPosition   s0 Q E) : MetG l x yX13_errorPosition cX13_errorPosition 1 (some .int) 1 22 0 0 [.ref (xad x 15 0)] s0 (RI Q) E := by
  refine MetG.of hl (by decide) (Nat.le_of_ble_eq_true rfl) [some (.ref (xad x 15 0))] rfl (fun K B hx _ => ?_)
  subst hx
  unfold wX13_errorPosition at h
  refine g_aload_n (np := 1) B.1 dX13_errorPosition_0 rfl rfl ?_
  refine g_aload_n (np := 2) B.1 dX13_errorPosition_1 rfl rfl ?_
  refine gf_YModel_28_15 (np := 5) B.1 dX13_errorPosition_2 rfl ?_
  refine g_if_ge (np := 8) (tgt := 12) B.1 dX13_errorPosition_5 (by decide) rfl (fun q => ?_) (fun q => ?_)
  · replace h := h.1 q
    refine g_iconst (np := 13) (v := 0) B.1 dX13_errorPosition_12 (by decide) rfl ?_
    refine g_iconst (np := 14) (v := 1) B.1 dX13_errorPosition_13 (by decide) rfl ?_
    refine gc_YModel_65 (np := 17) B   (oX13_isThrown B.1.tr   0 1  _ _ _ h) (Nat.le_of_ble_eq_true rfl) (Nat.le_of_ble_eq_true rfl) (Nat.le_of_ble_eq_true rfl) (Nat.le_of_ble_eq_true rfl) (Nat.le_of_ble_eq_true rfl) dX13_errorPosition_14 rfl (fun r1 s2 h => ?_)
    refine g_if_eq (np := 20) (tgt := 24) B.1 dX13_errorPosition_17 (by decide) rfl (fun q => ?_) (fun q => ?_)
    · replace h := h.1 q
      refine g_aload_n (np := 25) B.1 dX13_errorPosition_24 rfl rfl ?_
      refine gf_YModel_28_15 (np := 28) B.1 dX13_errorPosition_25 rfl ?_
      exact g_iret B (ty := .int) rfl rfl (Nat.le_of_ble_eq_true rfl) (Nat.le_of_ble_eq_true rfl) dX13_errorPosition_28 ⟨_, rfl, h⟩
    · replace h := h.2 q
      refine g_iconst (np := 21) (v := 0) B.1 dX13_errorPosition_20 (by decide) rfl ?_
      refine g_goto (tgt := 28) B.1 dX13_errorPosition_21 (by decide) ?_
      exact g_iret B (ty := .int) rfl rfl (Nat.le_of_ble_eq_true rfl) (Nat.le_of_ble_eq_true rfl) dX13_errorPosition_28 ⟨_, rfl, h⟩
  · replace h := h.2 q
    refine g_iconst (np := 9) (v := 1) B.1 dX13_errorPosition_8 (by decide) rfl ?_
    refine g_goto (tgt := 13) B.1 dX13_errorPosition_9 (by decide) ?_
    refine g_iconst (np := 14) (v := 1) B.1 dX13_errorPosition_13 (by decide) rfl ?_
    refine gc_YModel_65 (np := 17) B   (oX13_isThrown B.1.tr   1 1  _ _ _ h) (Nat.le_of_ble_eq_true rfl) (Nat.le_of_ble_eq_true rfl) (Nat.le_of_ble_eq_true rfl) (Nat.le_of_ble_eq_true rfl) (Nat.le_of_ble_eq_true rfl) dX13_errorPosition_14 rfl (fun r3 s4 h => ?_)
    refine g_if_eq (np := 20) (tgt := 24) B.1 dX13_errorPosition_17 (by decide) rfl (fun q => ?_) (fun q => ?_)
    · replace h := h.1 q
      refine g_aload_n (np := 25) B.1 dX13_errorPosition_24 rfl rfl ?_
      refine gf_YModel_28_15 (np := 28) B.1 dX13_errorPosition_25 rfl ?_
      exact g_iret B (ty := .int) rfl rfl (Nat.le_of_ble_eq_true rfl) (Nat.le_of_ble_eq_true rfl) dX13_errorPosition_28 ⟨_, rfl, h⟩
    · replace h := h.2 q
      refine g_iconst (np := 21) (v := 0) B.1 dX13_errorPosition_20 (by decide) rfl ?_
      refine g_goto (tgt := 28) B.1 dX13_errorPosition_21 (by decide) ?_
      exact g_iret B (ty := .int) rfl rfl (Nat.le_of_ble_eq_true rfl) (Nat.le_of_ble_eq_true rfl) dX13_errorPosition_28 ⟨_, rfl, h⟩
def wX13_failedCommand   (s0 : Mem) (Q : Int32 → Mem → Prop) (E : String → Mem → Prop) : Prop := ((0 ≤ rd s0 15 0 9 → wX13_isThrown  0 1 s0 (fun (r1 : Int32) (s2 : Mem) => ((r1 = 0 → Q (rd s2 15 0 9) s2) ∧ (¬ r1 = 0 → Q 0 s2))) E) ∧ (¬ 0 ≤ rd s0 15 0 9 → wX13_isThrown  1 1 s0 (fun (r3 : Int32) (s4 : Mem) => ((r3 = 0 → Q (rd s4 15 0 9) s4) ∧ (¬ r3 = 0 → Q 0 s4))) E))
set_option maxRecDepth 20000 in
set_option maxHeartbeats 4000000 in
theorem oX13_failedCommand {l : Launch} {x : Ctx} (hl : l.stackTraces = false)     (s0 : Mem) (Q : Int32 → Mem → Prop) (E : String → Mem → Prop) (h : wX13_failedCommand   s0 Q E) : MetG l x yX13_failedCommand cX13_failedCommand 1 (some .int) 1 22 0 0 [.ref (xad x 15 0)] s0 (RI Q) E := by
  refine MetG.of hl (by decide) (Nat.le_of_ble_eq_true rfl) [some (.ref (xad x 15 0))] rfl (fun K B hx _ => ?_)
  subst hx
  unfold wX13_failedCommand at h
  refine g_aload_n (np := 1) B.1 dX13_failedCommand_0 rfl rfl ?_
  refine g_aload_n (np := 2) B.1 dX13_failedCommand_1 rfl rfl ?_
  refine gf_YModel_32_15 (np := 5) B.1 dX13_failedCommand_2 rfl ?_
  refine g_if_ge (np := 8) (tgt := 12) B.1 dX13_failedCommand_5 (by decide) rfl (fun q => ?_) (fun q => ?_)
  · replace h := h.1 q
    refine g_iconst (np := 13) (v := 0) B.1 dX13_failedCommand_12 (by decide) rfl ?_
    refine g_iconst (np := 14) (v := 1) B.1 dX13_failedCommand_13 (by decide) rfl ?_
    refine gc_YModel_65 (np := 17) B   (oX13_isThrown B.1.tr   0 1  _ _ _ h) (Nat.le_of_ble_eq_true rfl) (Nat.le_of_ble_eq_true rfl) (Nat.le_of_ble_eq_true rfl) (Nat.le_of_ble_eq_true rfl) (Nat.le_of_ble_eq_true rfl) dX13_failedCommand_14 rfl (fun r1 s2 h => ?_)
    refine g_if_eq (np := 20) (tgt := 24) B.1 dX13_failedCommand_17 (by decide) rfl (fun q => ?_) (fun q => ?_)
    · replace h := h.1 q
      refine g_aload_n (np := 25) B.1 dX13_failedCommand_24 rfl rfl ?_
      refine gf_YModel_32_15 (np := 28) B.1 dX13_failedCommand_25 rfl ?_
      exact g_iret B (ty := .int) rfl rfl (Nat.le_of_ble_eq_true rfl) (Nat.le_of_ble_eq_true rfl) dX13_failedCommand_28 ⟨_, rfl, h⟩
    · replace h := h.2 q
      refine g_iconst (np := 21) (v := 0) B.1 dX13_failedCommand_20 (by decide) rfl ?_
      refine g_goto (tgt := 28) B.1 dX13_failedCommand_21 (by decide) ?_
      exact g_iret B (ty := .int) rfl rfl (Nat.le_of_ble_eq_true rfl) (Nat.le_of_ble_eq_true rfl) dX13_failedCommand_28 ⟨_, rfl, h⟩
  · replace h := h.2 q
    refine g_iconst (np := 9) (v := 1) B.1 dX13_failedCommand_8 (by decide) rfl ?_
    refine g_goto (tgt := 13) B.1 dX13_failedCommand_9 (by decide) ?_
    refine g_iconst (np := 14) (v := 1) B.1 dX13_failedCommand_13 (by decide) rfl ?_
    refine gc_YModel_65 (np := 17) B   (oX13_isThrown B.1.tr   1 1  _ _ _ h) (Nat.le_of_ble_eq_true rfl) (Nat.le_of_ble_eq_true rfl) (Nat.le_of_ble_eq_true rfl) (Nat.le_of_ble_eq_true rfl) (Nat.le_of_ble_eq_true rfl) dX13_failedCommand_14 rfl (fun r3 s4 h => ?_)
    refine g_if_eq (np := 20) (tgt := 24) B.1 dX13_failedCommand_17 (by decide) rfl (fun q => ?_) (fun q => ?_)
    · replace h := h.1 q
      refine g_aload_n (np := 25) B.1 dX13_failedCommand_24 rfl rfl ?_
      refine gf_YModel_32_15 (np := 28) B.1 dX13_failedCommand_25 rfl ?_
      exact g_iret B (ty := .int) rfl rfl (Nat.le_of_ble_eq_true rfl) (Nat.le_of_ble_eq_true rfl) dX13_failedCommand_28 ⟨_, rfl, h⟩
    · replace h := h.2 q
      refine g_iconst (np := 21) (v := 0) B.1 dX13_failedCommand_20 (by decide) rfl ?_
      refine g_goto (tgt := 28) B.1 dX13_failedCommand_21 (by decide) ?_
      exact g_iret B (ty := .int) rfl rfl (Nat.le_of_ble_eq_true rfl) (Nat.le_of_ble_eq_true rfl) dX13_failedCommand_28 ⟨_, rfl, h⟩
def wX13_undo   (s0 : Mem) (Q : Int32 → Mem → Prop) (E : String → Mem → Prop) : Prop := ((¬ rd s0 15 0 6 = 0 → wX13_isThrown  0 1 s0 (fun (r1 : Int32) (s2 : Mem) => ((r1 = 0 → ∀ s3 : Mem, s3 = wr s2 15 0 6 ((rd s2 15 0 6) - 1) → wX13_copies 11 8 (90 * (rd s3 15 0 6)) 0 s3 (fun (s5 : Mem) => Q (rd s5 15 0 6) s5) E) ∧ (¬ r1 = 0 → Q 0 s2))) E) ∧ (rd s0 15 0 6 = 0 → wX13_isThrown  1 1 s0 (fun (r6 : Int32) (s7 : Mem) => ((r6 = 0 → ∀ s8 : Mem, s8 = wr s7 15 0 6 ((rd s7 15 0 6) - 1) → wX13_copies 11 8 (90 * (rd s8 15 0 6)) 0 s8 (fun (s10 : Mem) => Q (rd s10 15 0 6) s10) E) ∧ (¬ r6 = 0 → Q 0 s7))) E))
set_option maxRecDepth 20000 in
set_option maxHeartbeats 4000000 in
theorem oX13_undo {l : Launch} {x : Ctx} (hl : l.stackTraces = false)     (s0 : Mem) (Q : Int32 → Mem → Prop) (E : String → Mem → Prop) (h : wX13_undo   s0 Q E) : MetG l x yX13_undo cX13_undo 1 (some .int) 1 24 0 0 [.ref (xad x 15 0)] s0 (RI Q) E := by
  refine MetG.of hl (by decide) (Nat.le_of_ble_eq_true rfl) [some (.ref (xad x 15 0))] rfl (fun K B hx _ => ?_)
  subst hx
  unfold wX13_undo at h
  refine g_aload_n (np := 1) B.1 dX13_undo_0 rfl rfl ?_
  refine g_aload_n (np := 2) B.1 dX13_undo_1 rfl rfl ?_
  refine gf_YModel_51_15 (np := 5) B.1 dX13_undo_2 rfl ?_
  refine g_if_ne (np := 8) (tgt := 12) B.1 dX13_undo_5 (by decide) rfl (fun q => ?_) (fun q => ?_)
  · replace h := h.1 q
    refine g_iconst (np := 13) (v := 0) B.1 dX13_undo_12 (by decide) rfl ?_
    refine g_iconst (np := 14) (v := 1) B.1 dX13_undo_13 (by decide) rfl ?_
    refine gc_YModel_65 (np := 17) B   (oX13_isThrown B.1.tr   0 1  _ _ _ h) (Nat.le_of_ble_eq_true rfl) (Nat.le_of_ble_eq_true rfl) (Nat.le_of_ble_eq_true rfl) (Nat.le_of_ble_eq_true rfl) (Nat.le_of_ble_eq_true rfl) dX13_undo_14 rfl (fun r1 s2 h => ?_)
    refine g_if_eq (np := 20) (tgt := 22) B.1 dX13_undo_17 (by decide) rfl (fun q => ?_) (fun q => ?_)
    · replace h := h.1 q
      refine g_aload_n (np := 23) B.1 dX13_undo_22 rfl rfl ?_
      refine g_dup (np := 24) B.1 dX13_undo_23 rfl rfl ?_
      refine gf_YModel_51_15 (np := 27) B.1 dX13_undo_24 rfl ?_
      refine g_iconst (np := 28) (v := 1) B.1 dX13_undo_27 (by decide) rfl ?_
      refine g_isub (np := 29) B.1 dX13_undo_28 rfl ?_
      refine gp_YModel_51_15 (np := 32) B.1 dX13_undo_29 rfl ?_
      refine g_mem (fun s3 es3 => ?_)
      replace h := h s3 es3
      refine g_aload_n (np := 33) B.1 dX13_undo_32 rfl rfl ?_
      refine gf_YModel_19_15 (np := 36) B.1 dX13_undo_33 rfl ?_
      refine g_bipush (np := 38) (v := 90) B.1 dX13_undo_36 (by decide) rfl ?_
      refine g_aload_n (np := 39) B.1 dX13_undo_38 rfl rfl ?_
      refine gf_YModel_51_15 (np := 42) B.1 dX13_undo_39 rfl ?_
      refine g_imul (np := 43) B.1 dX13_undo_42 rfl ?_
      refine g_aload_n (np := 44) B.1 dX13_undo_43 rfl rfl ?_
      refine gf_YModel_9_15 (np := 47) B.1 dX13_undo_44 rfl ?_
      refine g_iconst (np := 48) (v := 0) B.1 dX13_undo_47 (by decide) rfl ?_
      refine gc_YModel_47 (np := 51) B 11 8 (by decide) (by decide) (oX13_copies B.1.tr 11 8 (by decide) (by decide) (90 * (rd s3 15 0 6)) 0  _ _ _ h) (Nat.le_of_ble_eq_true rfl) (Nat.le_of_ble_eq_true rfl) (Nat.le_of_ble_eq_true rfl) (Nat.le_of_ble_eq_true rfl) (Nat.le_of_ble_eq_true rfl) dX13_undo_48 rfl (fun s5 h => ?_)
      refine g_aload_n (np := 52) B.1 dX13_undo_51 rfl rfl ?_
      refine gf_YModel_51_15 (np := 55) B.1 dX13_undo_52 rfl ?_
      exact g_iret B (ty := .int) rfl rfl (Nat.le_of_ble_eq_true rfl) (Nat.le_of_ble_eq_true rfl) dX13_undo_55 ⟨_, rfl, h⟩
    · replace h := h.2 q
      refine g_iconst (np := 21) (v := 0) B.1 dX13_undo_20 (by decide) rfl ?_
      exact g_iret B (ty := .int) rfl rfl (Nat.le_of_ble_eq_true rfl) (Nat.le_of_ble_eq_true rfl) dX13_undo_21 ⟨_, rfl, h⟩
  · replace h := h.2 q
    refine g_iconst (np := 9) (v := 1) B.1 dX13_undo_8 (by decide) rfl ?_
    refine g_goto (tgt := 13) B.1 dX13_undo_9 (by decide) ?_
    refine g_iconst (np := 14) (v := 1) B.1 dX13_undo_13 (by decide) rfl ?_
    refine gc_YModel_65 (np := 17) B   (oX13_isThrown B.1.tr   1 1  _ _ _ h) (Nat.le_of_ble_eq_true rfl) (Nat.le_of_ble_eq_true rfl) (Nat.le_of_ble_eq_true rfl) (Nat.le_of_ble_eq_true rfl) (Nat.le_of_ble_eq_true rfl) dX13_undo_14 rfl (fun r6 s7 h => ?_)
    refine g_if_eq (np := 20) (tgt := 22) B.1 dX13_undo_17 (by decide) rfl (fun q => ?_) (fun q => ?_)
    · replace h := h.1 q
      refine g_aload_n (np := 23) B.1 dX13_undo_22 rfl rfl ?_
      refine g_dup (np := 24) B.1 dX13_undo_23 rfl rfl ?_
      refine gf_YModel_51_15 (np := 27) B.1 dX13_undo_24 rfl ?_
      refine g_iconst (np := 28) (v := 1) B.1 dX13_undo_27 (by decide) rfl ?_
      refine g_isub (np := 29) B.1 dX13_undo_28 rfl ?_
      refine gp_YModel_51_15 (np := 32) B.1 dX13_undo_29 rfl ?_
      refine g_mem (fun s8 es8 => ?_)
      replace h := h s8 es8
      refine g_aload_n (np := 33) B.1 dX13_undo_32 rfl rfl ?_
      refine gf_YModel_19_15 (np := 36) B.1 dX13_undo_33 rfl ?_
      refine g_bipush (np := 38) (v := 90) B.1 dX13_undo_36 (by decide) rfl ?_
      refine g_aload_n (np := 39) B.1 dX13_undo_38 rfl rfl ?_
      refine gf_YModel_51_15 (np := 42) B.1 dX13_undo_39 rfl ?_
      refine g_imul (np := 43) B.1 dX13_undo_42 rfl ?_
      refine g_aload_n (np := 44) B.1 dX13_undo_43 rfl rfl ?_
      refine gf_YModel_9_15 (np := 47) B.1 dX13_undo_44 rfl ?_
      refine g_iconst (np := 48) (v := 0) B.1 dX13_undo_47 (by decide) rfl ?_
      refine gc_YModel_47 (np := 51) B 11 8 (by decide) (by decide) (oX13_copies B.1.tr 11 8 (by decide) (by decide) (90 * (rd s8 15 0 6)) 0  _ _ _ h) (Nat.le_of_ble_eq_true rfl) (Nat.le_of_ble_eq_true rfl) (Nat.le_of_ble_eq_true rfl) (Nat.le_of_ble_eq_true rfl) (Nat.le_of_ble_eq_true rfl) dX13_undo_48 rfl (fun s10 h => ?_)
      refine g_aload_n (np := 52) B.1 dX13_undo_51 rfl rfl ?_
      refine gf_YModel_51_15 (np := 55) B.1 dX13_undo_52 rfl ?_
      exact g_iret B (ty := .int) rfl rfl (Nat.le_of_ble_eq_true rfl) (Nat.le_of_ble_eq_true rfl) dX13_undo_55 ⟨_, rfl, h⟩
    · replace h := h.2 q
      refine g_iconst (np := 21) (v := 0) B.1 dX13_undo_20 (by decide) rfl ?_
      exact g_iret B (ty := .int) rfl rfl (Nat.le_of_ble_eq_true rfl) (Nat.le_of_ble_eq_true rfl) dX13_undo_21 ⟨_, rfl, h⟩
def wX13_save   (s0 : Mem) (Q : Int32 → Mem → Prop) (E : String → Mem → Prop) : Prop := ∀ s1 : Mem, s1 = wr s0 15 0 7 0 → wX13_copies 8 10 0 0 s1 (fun (s3 : Mem) => ∀ s4 : Mem, s4 = wr s3 15 0 12 1 → Q (rd s4 10 8 13) s4) E
set_option maxRecDepth 20000 in
set_option maxHeartbeats 4000000 in
theorem oX13_save {l : Launch} {x : Ctx} (hl : l.stackTraces = false)     (s0 : Mem) (Q : Int32 → Mem → Prop) (E : String → Mem → Prop) (h : wX13_save   s0 Q E) : MetG l x yX13_save cX13_save 1 (some .int) 1 24 0 0 [.ref (xad x 15 0)] s0 (RI Q) E := by
  refine MetG.of hl (by decide) (Nat.le_of_ble_eq_true rfl) [some (.ref (xad x 15 0))] rfl (fun K B hx _ => ?_)
  subst hx
  unfold wX13_save at h
  refine g_aload_n (np := 1) B.1 dX13_save_0 rfl rfl ?_
  refine g_iconst (np := 2) (v := 0) B.1 dX13_save_1 (by decide) rfl ?_
  refine gp_YModel_44_15 (np := 5) B.1 dX13_save_2 rfl ?_
  refine g_mem (fun s1 es1 => ?_)
  replace h := h s1 es1
  refine g_aload_n (np := 6) B.1 dX13_save_5 rfl rfl ?_
  refine gf_YModel_9_15 (np := 9) B.1 dX13_save_6 rfl ?_
  refine g_iconst (np := 10) (v := 0) B.1 dX13_save_9 (by decide) rfl ?_
  refine g_aload_n (np := 11) B.1 dX13_save_10 rfl rfl ?_
  refine gf_YModel_16_15 (np := 14) B.1 dX13_save_11 rfl ?_
  refine g_iconst (np := 15) (v := 0) B.1 dX13_save_14 (by decide) rfl ?_
  refine gc_YModel_47 (np := 18) B 8 10 (by decide) (by decide) (oX13_copies B.1.tr 8 10 (by decide) (by decide) 0 0  _ _ _ h) (Nat.le_of_ble_eq_true rfl) (Nat.le_of_ble_eq_true rfl) (Nat.le_of_ble_eq_true rfl) (Nat.le_of_ble_eq_true rfl) (Nat.le_of_ble_eq_true rfl) dX13_save_15 rfl (fun s3 h => ?_)
  refine g_aload_n (np := 19) B.1 dX13_save_18 rfl rfl ?_
  refine g_iconst (np := 20) (v := 1) B.1 dX13_save_19 (by decide) rfl ?_
  refine gp_YModel_260_15 (np := 23) B.1 (by decide) dX13_save_20 rfl ?_
  refine g_mem (fun s4 es4 => ?_)
  replace h := h s4 es4
  refine g_aload_n (np := 24) B.1 dX13_save_23 rfl rfl ?_
  refine gf_YModel_9_15 (np := 27) B.1 dX13_save_24 rfl ?_
  refine g_bipush (np := 29) (v := 13) B.1 dX13_save_27 (by decide) rfl ?_
  refine g_ialdL (np := 30) B.1 10 8 (by decide) rfl rfl 13 (by decide) (vpl (by decide)) dX13_save_29 rfl ?_
  exact g_iret B (ty := .int) rfl rfl (Nat.le_of_ble_eq_true rfl) (Nat.le_of_ble_eq_true rfl) dX13_save_30 ⟨_, rfl, h⟩
def wX13_restore   (s0 : Mem) (Q : Int32 → Mem → Prop) (E : String → Mem → Prop) : Prop := ((¬ rd s0 15 0 12 = 0 → wX13_isThrown  0 1 s0 (fun (r1 : Int32) (s2 : Mem) => ((r1 = 0 → wX13_copies 10 8 0 0 s2 (fun (s4 : Mem) => ∀ s5 : Mem, s5 = wr s4 15 0 6 0 → Q (rd s5 10 8 13) s5) E) ∧ (¬ r1 = 0 → Q 0 s2))) E) ∧ (rd s0 15 0 12 = 0 → wX13_isThrown  1 1 s0 (fun (r6 : Int32) (s7 : Mem) => ((r6 = 0 → wX13_copies 10 8 0 0 s7 (fun (s9 : Mem) => ∀ s10 : Mem, s10 = wr s9 15 0 6 0 → Q (rd s10 10 8 13) s10) E) ∧ (¬ r6 = 0 → Q 0 s7))) E))
set_option maxRecDepth 20000 in
set_option maxHeartbeats 4000000 in
theorem oX13_restore {l : Launch} {x : Ctx} (hl : l.stackTraces = false)     (s0 : Mem) (Q : Int32 → Mem → Prop) (E : String → Mem → Prop) (h : wX13_restore   s0 Q E) : MetG l x yX13_restore cX13_restore 1 (some .int) 1 24 0 0 [.ref (xad x 15 0)] s0 (RI Q) E := by
  refine MetG.of hl (by decide) (Nat.le_of_ble_eq_true rfl) [some (.ref (xad x 15 0))] rfl (fun K B hx _ => ?_)
  subst hx
  unfold wX13_restore at h
  refine g_aload_n (np := 1) B.1 dX13_restore_0 rfl rfl ?_
  refine g_aload_n (np := 2) B.1 dX13_restore_1 rfl rfl ?_
  refine gf_YModel_260_15 (np := 5) B.1 dX13_restore_2 rfl ?_
  refine g_if_ne (np := 8) (tgt := 12) B.1 dX13_restore_5 (by decide) rfl (fun q => ?_) (fun q => ?_)
  · replace h := h.1 q
    refine g_iconst (np := 13) (v := 0) B.1 dX13_restore_12 (by decide) rfl ?_
    refine g_iconst (np := 14) (v := 1) B.1 dX13_restore_13 (by decide) rfl ?_
    refine gc_YModel_65 (np := 17) B   (oX13_isThrown B.1.tr   0 1  _ _ _ h) (Nat.le_of_ble_eq_true rfl) (Nat.le_of_ble_eq_true rfl) (Nat.le_of_ble_eq_true rfl) (Nat.le_of_ble_eq_true rfl) (Nat.le_of_ble_eq_true rfl) dX13_restore_14 rfl (fun r1 s2 h => ?_)
    refine g_if_eq (np := 20) (tgt := 22) B.1 dX13_restore_17 (by decide) rfl (fun q => ?_) (fun q => ?_)
    · replace h := h.1 q
      refine g_aload_n (np := 23) B.1 dX13_restore_22 rfl rfl ?_
      refine gf_YModel_16_15 (np := 26) B.1 dX13_restore_23 rfl ?_
      refine g_iconst (np := 27) (v := 0) B.1 dX13_restore_26 (by decide) rfl ?_
      refine g_aload_n (np := 28) B.1 dX13_restore_27 rfl rfl ?_
      refine gf_YModel_9_15 (np := 31) B.1 dX13_restore_28 rfl ?_
      refine g_iconst (np := 32) (v := 0) B.1 dX13_restore_31 (by decide) rfl ?_
      refine gc_YModel_47 (np := 35) B 10 8 (by decide) (by decide) (oX13_copies B.1.tr 10 8 (by decide) (by decide) 0 0  _ _ _ h) (Nat.le_of_ble_eq_true rfl) (Nat.le_of_ble_eq_true rfl) (Nat.le_of_ble_eq_true rfl) (Nat.le_of_ble_eq_true rfl) (Nat.le_of_ble_eq_true rfl) dX13_restore_32 rfl (fun s4 h => ?_)
      refine g_aload_n (np := 36) B.1 dX13_restore_35 rfl rfl ?_
      refine g_iconst (np := 37) (v := 0) B.1 dX13_restore_36 (by decide) rfl ?_
      refine gp_YModel_51_15 (np := 40) B.1 dX13_restore_37 rfl ?_
      refine g_mem (fun s5 es5 => ?_)
      replace h := h s5 es5
      refine g_aload_n (np := 41) B.1 dX13_restore_40 rfl rfl ?_
      refine gf_YModel_9_15 (np := 44) B.1 dX13_restore_41 rfl ?_
      refine g_bipush (np := 46) (v := 13) B.1 dX13_restore_44 (by decide) rfl ?_
      refine g_ialdL (np := 47) B.1 10 8 (by decide) rfl rfl 13 (by decide) (vpl (by decide)) dX13_restore_46 rfl ?_
      exact g_iret B (ty := .int) rfl rfl (Nat.le_of_ble_eq_true rfl) (Nat.le_of_ble_eq_true rfl) dX13_restore_47 ⟨_, rfl, h⟩
    · replace h := h.2 q
      refine g_iconst (np := 21) (v := 0) B.1 dX13_restore_20 (by decide) rfl ?_
      exact g_iret B (ty := .int) rfl rfl (Nat.le_of_ble_eq_true rfl) (Nat.le_of_ble_eq_true rfl) dX13_restore_21 ⟨_, rfl, h⟩
  · replace h := h.2 q
    refine g_iconst (np := 9) (v := 1) B.1 dX13_restore_8 (by decide) rfl ?_
    refine g_goto (tgt := 13) B.1 dX13_restore_9 (by decide) ?_
    refine g_iconst (np := 14) (v := 1) B.1 dX13_restore_13 (by decide) rfl ?_
    refine gc_YModel_65 (np := 17) B   (oX13_isThrown B.1.tr   1 1  _ _ _ h) (Nat.le_of_ble_eq_true rfl) (Nat.le_of_ble_eq_true rfl) (Nat.le_of_ble_eq_true rfl) (Nat.le_of_ble_eq_true rfl) (Nat.le_of_ble_eq_true rfl) dX13_restore_14 rfl (fun r6 s7 h => ?_)
    refine g_if_eq (np := 20) (tgt := 22) B.1 dX13_restore_17 (by decide) rfl (fun q => ?_) (fun q => ?_)
    · replace h := h.1 q
      refine g_aload_n (np := 23) B.1 dX13_restore_22 rfl rfl ?_
      refine gf_YModel_16_15 (np := 26) B.1 dX13_restore_23 rfl ?_
      refine g_iconst (np := 27) (v := 0) B.1 dX13_restore_26 (by decide) rfl ?_
      refine g_aload_n (np := 28) B.1 dX13_restore_27 rfl rfl ?_
      refine gf_YModel_9_15 (np := 31) B.1 dX13_restore_28 rfl ?_
      refine g_iconst (np := 32) (v := 0) B.1 dX13_restore_31 (by decide) rfl ?_
      refine gc_YModel_47 (np := 35) B 10 8 (by decide) (by decide) (oX13_copies B.1.tr 10 8 (by decide) (by decide) 0 0  _ _ _ h) (Nat.le_of_ble_eq_true rfl) (Nat.le_of_ble_eq_true rfl) (Nat.le_of_ble_eq_true rfl) (Nat.le_of_ble_eq_true rfl) (Nat.le_of_ble_eq_true rfl) dX13_restore_32 rfl (fun s9 h => ?_)
      refine g_aload_n (np := 36) B.1 dX13_restore_35 rfl rfl ?_
      refine g_iconst (np := 37) (v := 0) B.1 dX13_restore_36 (by decide) rfl ?_
      refine gp_YModel_51_15 (np := 40) B.1 dX13_restore_37 rfl ?_
      refine g_mem (fun s10 es10 => ?_)
      replace h := h s10 es10
      refine g_aload_n (np := 41) B.1 dX13_restore_40 rfl rfl ?_
      refine gf_YModel_9_15 (np := 44) B.1 dX13_restore_41 rfl ?_
      refine g_bipush (np := 46) (v := 13) B.1 dX13_restore_44 (by decide) rfl ?_
      refine g_ialdL (np := 47) B.1 10 8 (by decide) rfl rfl 13 (by decide) (vpl (by decide)) dX13_restore_46 rfl ?_
      exact g_iret B (ty := .int) rfl rfl (Nat.le_of_ble_eq_true rfl) (Nat.le_of_ble_eq_true rfl) dX13_restore_47 ⟨_, rfl, h⟩
    · replace h := h.2 q
      refine g_iconst (np := 21) (v := 0) B.1 dX13_restore_20 (by decide) rfl ?_
      exact g_iret B (ty := .int) rfl rfl (Nat.le_of_ble_eq_true rfl) (Nat.le_of_ble_eq_true rfl) dX13_restore_21 ⟨_, rfl, h⟩
