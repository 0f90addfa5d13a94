def wX5_refusalOfOpening (k : Nat) (a1 : Int32) (a2 : Int32) (s0 : Mem) (Q : Nat → Mem → Prop) (E : String → Mem → Prop) : Prop := wX12_isBetween  a1 1 40 s0 (fun (r1 : Int32) (s2 : Mem) => ((r1 = 0 → Q 1 s2) ∧ (¬ r1 = 0 → wX12_isBetween  a2 1 9 s2 (fun (r3 : Int32) (s4 : Mem) => ((¬ r3 = 0 → wX7_isFull (10 * k + 5)  s4 (fun (r5 : Int32) (s6 : Mem) => ((r5 = 0 → Q 0 s6) ∧ (¬ r5 = 0 → Q 2 s6))) E) ∧ (r3 = 0 → Q 1 s4))) E))) E
set_option maxRecDepth 20000 in
set_option maxHeartbeats 4000000 in
theorem oX5_refusalOfOpening {l : Launch} {x : Ctx} (hl : l.stackTraces = false) (k : Nat) (hk : k < 11) (a1 : Int32) (a2 : Int32)  (s0 : Mem) (Q : Nat → Mem → Prop) (E : String → Mem → Prop) (h : wX5_refusalOfOpening k a1 a2 s0 Q E) : MetG l x yX5_refusalOfOpening cX5_refusalOfOpening 3 (some (.object "YarnMill$Refusal")) 1 22 0 0 [.ref (xad x 3 k), .int a1, .int a2] s0 (RE x Q) E := by
  refine MetG.of hl (by decide) (Nat.le_of_ble_eq_true rfl) [some (.ref (xad x 3 k)), some (.int a1), some (.int a2)] rfl (fun K B hx _ => ?_)
  subst hx
  unfold wX5_refusalOfOpening at h
  refine g_iload_n (np := 1) B.1 dX5_refusalOfOpening_0 rfl rfl ?_
  refine g_iconst (np := 2) (v := 1) B.1 dX5_refusalOfOpening_1 (by decide) rfl ?_
  refine g_bipush (np := 4) (v := 40) B.1 dX5_refusalOfOpening_2 (by decide) rfl ?_
  refine gc_YOrders_29 (np := 7) B   (oX12_isBetween B.1.tr   a1 1 40  _ _ _ (noE_X12_isBetween h)) (Nat.le_of_ble_eq_true rfl) (Nat.le_of_ble_eq_true rfl) (Nat.le_of_ble_eq_true rfl) (Nat.le_of_ble_eq_true rfl) (Nat.le_of_ble_eq_true rfl) dX5_refusalOfOpening_4 rfl (fun r1 s2 h => ?_)
  refine g_if_eq (np := 10) (tgt := 20) B.1 dX5_refusalOfOpening_7 (by decide) rfl (fun q => ?_) (fun q => ?_)
  · replace h := h.1 q
    refine g_getRef (np := 23) B.1 1 (by decide) b_587 dX5_refusalOfOpening_20 rfl ?_
    exact g_aret B rfl (Or.inl ⟨_, rfl⟩) (Or.inr ⟨_, rfl⟩) (Nat.le_of_ble_eq_true rfl) (Nat.le_of_ble_eq_true rfl) dX5_refusalOfOpening_23 ⟨_, rfl, (by decide), h⟩
  · replace h := h.2 q
    refine g_iload_n (np := 11) B.1 dX5_refusalOfOpening_10 rfl rfl ?_
    refine g_iconst (np := 12) (v := 1) B.1 dX5_refusalOfOpening_11 (by decide) rfl ?_
    refine g_bipush (np := 14) (v := 9) B.1 dX5_refusalOfOpening_12 (by decide) rfl ?_
    refine gc_YOrders_29 (np := 17) B   (oX12_isBetween B.1.tr   a2 1 9  _ _ _ (noE_X12_isBetween h)) (Nat.le_of_ble_eq_true rfl) (Nat.le_of_ble_eq_true rfl) (Nat.le_of_ble_eq_true rfl) (Nat.le_of_ble_eq_true rfl) (Nat.le_of_ble_eq_true rfl) dX5_refusalOfOpening_14 rfl (fun r3 s4 h => ?_)
    refine g_if_ne (np := 20) (tgt := 24) B.1 dX5_refusalOfOpening_17 (by decide) rfl (fun q => ?_) (fun q => ?_)
    · replace h := h.1 q
      refine g_aload_n (np := 25) B.1 dX5_refusalOfOpening_24 rfl rfl ?_
      refine gf_YOrders_14_3 (np := 28) B.1 k hk dX5_refusalOfOpening_25 rfl ?_
      refine gc_YOrders_39 (np := 31) B (10 * k + 5) (lt_row hk (by decide)) (oX7_isFull B.1.tr (10 * k + 5) (lt_row hk (by decide))   _ _ _ h) (Nat.le_of_ble_eq_true rfl) (Nat.le_of_ble_eq_true rfl) (Nat.le_of_ble_eq_true rfl) (Nat.le_of_ble_eq_true rfl) (Nat.le_of_ble_eq_true rfl) dX5_refusalOfOpening_28 rfl (fun r5 s6 h => ?_)
      refine g_if_eq (np := 34) (tgt := 40) B.1 dX5_refusalOfOpening_31 (by decide) rfl (fun q => ?_) (fun q => ?_)
      · replace h := h.1 q
        refine g_getRef (np := 43) B.1 0 (by decide) b_590 dX5_refusalOfOpening_40 rfl ?_
        exact g_aret B rfl (Or.inl ⟨_, rfl⟩) (Or.inr ⟨_, rfl⟩) (Nat.le_of_ble_eq_true rfl) (Nat.le_of_ble_eq_true rfl) dX5_refusalOfOpening_43 ⟨_, rfl, (by decide), h⟩
      · replace h := h.2 q
        refine g_getRef (np := 37) B.1 2 (by decide) b_589 dX5_refusalOfOpening_34 rfl ?_
        refine g_goto (tgt := 43) B.1 dX5_refusalOfOpening_37 (by decide) ?_
        exact g_aret B rfl (Or.inl ⟨_, rfl⟩) (Or.inr ⟨_, rfl⟩) (Nat.le_of_ble_eq_true rfl) (Nat.le_of_ble_eq_true rfl) dX5_refusalOfOpening_43 ⟨_, rfl, (by decide), h⟩
    · replace h := h.2 q
      refine g_getRef (np := 23) B.1 1 (by decide) b_587 dX5_refusalOfOpening_20 rfl ?_
      exact g_aret B rfl (Or.inl ⟨_, rfl⟩) (Or.inr ⟨_, rfl⟩) (Nat.le_of_ble_eq_true rfl) (Nat.le_of_ble_eq_true rfl) dX5_refusalOfOpening_23 ⟨_, rfl, (by decide), h⟩
def wX5_open (k : Nat) (a1 : Int32) (a2 : Int32) (s0 : Mem) (Q : Int32 → Mem → Prop) (E : String → Mem → Prop) : Prop := ∀ v3_1 : Int32, v3_1 = (rd s0 3 k 4) → ∀ s2 : Mem, s2 = wr s0 3 k 4 ((rd s0 3 k 4) + 1) → wX7_add (10 * k + 5) v3_1 s2 (fun (s4 : Mem) => wX7_add (10 * k + 6) a1 s4 (fun (s6 : Mem) => wX7_add (10 * k + 7) a2 s6 (fun (s8 : Mem) => wX7_add (10 * k + 8) (a1 * a2) s8 (fun (s10 : Mem) => Q v3_1 s10) E) E) E) E
set_option maxRecDepth 20000 in
set_option maxHeartbeats 4000000 in
theorem oX5_open {l : Launch} {x : Ctx} (hl : l.stackTraces = false) (k : Nat) (hk : k < 11) (a1 : Int32) (a2 : Int32)  (s0 : Mem) (Q : Int32 → Mem → Prop) (E : String → Mem → Prop) (h : wX5_open k a1 a2 s0 Q E) : MetG l x yX5_open cX5_open 4 (some .int) 1 21 0 0 [.ref (xad x 3 k), .int a1, .int a2] s0 (RI Q) E := by
  refine MetG.of hl (by decide) (Nat.le_of_ble_eq_true rfl) [some (.ref (xad x 3 k)), some (.int a1), some (.int a2), none] rfl (fun K B hx _ => ?_)
  subst hx
  unfold wX5_open at h
  refine g_aload_n (np := 1) B.1 dX5_open_0 rfl rfl ?_
  refine gf_YOrders_49_3 (np := 4) B.1 k hk dX5_open_1 rfl ?_
  refine g_topi (fun v3_1 ev3_1 => ?_)
  replace h := h v3_1 ev3_1
  refine g_istore_n (np := 5) (lv' := [some (.ref (xad (fX K) 3 k)), some (.int a1), some (.int a2), some (.int v3_1)]) B.1 dX5_open_4 (by decide) rfl rfl rfl ?_
  refine g_aload_n (np := 6) B.1 dX5_open_5 rfl rfl ?_
  refine g_dup (np := 7) B.1 dX5_open_6 rfl rfl ?_
  refine gf_YOrders_49_3 (np := 10) B.1 k hk dX5_open_7 rfl ?_
  refine g_iconst (np := 11) (v := 1) B.1 dX5_open_10 (by decide) rfl ?_
  refine g_iadd (np := 12) B.1 dX5_open_11 rfl ?_
  refine gp_YOrders_49_3 (np := 15) B.1 k hk dX5_open_12 rfl ?_
  refine g_mem (fun s2 es2 => ?_)
  replace h := h s2 es2
  refine g_aload_n (np := 16) B.1 dX5_open_15 rfl rfl ?_
  refine gf_YOrders_14_3 (np := 19) B.1 k hk dX5_open_16 rfl ?_
  refine g_iload_n (np := 20) B.1 dX5_open_19 rfl rfl ?_
  refine gc_YOrders_53 (np := 23) B (10 * k + 5) (lt_row hk (by decide)) (oX7_add B.1.tr (10 * k + 5) (lt_row hk (by decide)) v3_1  _ _ _ h) (Nat.le_of_ble_eq_true rfl) (Nat.le_of_ble_eq_true rfl) (Nat.le_of_ble_eq_true rfl) (Nat.le_of_ble_eq_true rfl) (Nat.le_of_ble_eq_true rfl) dX5_open_20 rfl (fun s4 h => ?_)
  refine g_aload_n (np := 24) B.1 dX5_open_23 rfl rfl ?_
  refine gf_YOrders_20_3 (np := 27) B.1 k hk dX5_open_24 rfl ?_
  refine g_iload_n (np := 28) B.1 dX5_open_27 rfl rfl ?_
  refine gc_YOrders_53 (np := 31) B (10 * k + 6) (lt_row hk (by decide)) (oX7_add B.1.tr (10 * k + 6) (lt_row hk (by decide)) a1  _ _ _ h) (Nat.le_of_ble_eq_true rfl) (Nat.le_of_ble_eq_true rfl) (Nat.le_of_ble_eq_true rfl) (Nat.le_of_ble_eq_true rfl) (Nat.le_of_ble_eq_true rfl) dX5_open_28 rfl (fun s6 h => ?_)
  refine g_aload_n (np := 32) B.1 dX5_open_31 rfl rfl ?_
  refine gf_YOrders_23_3 (np := 35) B.1 k hk dX5_open_32 rfl ?_
  refine g_iload_n (np := 36) B.1 dX5_open_35 rfl rfl ?_
  refine gc_YOrders_53 (np := 39) B (10 * k + 7) (lt_row hk (by decide)) (oX7_add B.1.tr (10 * k + 7) (lt_row hk (by decide)) a2  _ _ _ h) (Nat.le_of_ble_eq_true rfl) (Nat.le_of_ble_eq_true rfl) (Nat.le_of_ble_eq_true rfl) (Nat.le_of_ble_eq_true rfl) (Nat.le_of_ble_eq_true rfl) dX5_open_36 rfl (fun s8 h => ?_)
  refine g_aload_n (np := 40) B.1 dX5_open_39 rfl rfl ?_
  refine gf_YOrders_26_3 (np := 43) B.1 k hk dX5_open_40 rfl ?_
  refine g_iload_n (np := 44) B.1 dX5_open_43 rfl rfl ?_
  refine g_iload_n (np := 45) B.1 dX5_open_44 rfl rfl ?_
  refine g_imul (np := 46) B.1 dX5_open_45 rfl ?_
  refine gc_YOrders_53 (np := 49) B (10 * k + 8) (lt_row hk (by decide)) (oX7_add B.1.tr (10 * k + 8) (lt_row hk (by decide)) (a1 * a2)  _ _ _ h) (Nat.le_of_ble_eq_true rfl) (Nat.le_of_ble_eq_true rfl) (Nat.le_of_ble_eq_true rfl) (Nat.le_of_ble_eq_true rfl) (Nat.le_of_ble_eq_true rfl) dX5_open_46 rfl (fun s10 h => ?_)
  refine g_iload_n (np := 50) B.1 dX5_open_49 rfl rfl ?_
  exact g_iret B (ty := .int) rfl rfl (Nat.le_of_ble_eq_true rfl) (Nat.le_of_ble_eq_true rfl) dX5_open_50 ⟨_, rfl, h⟩
def wX5_close (k : Nat) (a1 : Int32) (s0 : Mem) (Q : Int32 → Mem → Prop) (E : String → Mem → Prop) : Prop := wX7_removeAt (10 * k + 5) a1 s0 (fun (s2 : Mem) => wX7_removeAt (10 * k + 6) a1 s2 (fun (s4 : Mem) => wX7_removeAt (10 * k + 7) a1 s4 (fun (s6 : Mem) => wX7_removeAt (10 * k + 8) a1 s6 (fun (s8 : Mem) => wX7_size (10 * k + 5)  s8 (fun (r9 : Int32) (s10 : Mem) => Q r9 s10) E) E) E) E) E
set_option maxRecDepth 20000 in
set_option maxHeartbeats 4000000 in
theorem oX5_close {l : Launch} {x : Ctx} (hl : l.stackTraces = false) (k : Nat) (hk : k < 11) (a1 : Int32)  (s0 : Mem) (Q : Int32 → Mem → Prop) (E : String → Mem → Prop) (h : wX5_close k a1 s0 Q E) : MetG l x yX5_close cX5_close 2 (some .int) 1 22 0 0 [.ref (xad x 3 k), .int a1] s0 (RI Q) E := by
  refine MetG.of hl (by decide) (Nat.le_of_ble_eq_true rfl) [some (.ref (xad x 3 k)), some (.int a1)] rfl (fun K B hx _ => ?_)
  subst hx
  unfold wX5_close at h
  refine g_aload_n (np := 1) B.1 dX5_close_0 rfl rfl ?_
  refine gf_YOrders_14_3 (np := 4) B.1 k hk dX5_close_1 rfl ?_
  refine g_iload_n (np := 5) B.1 dX5_close_4 rfl rfl ?_
  refine gc_YOrders_56 (np := 8) B (10 * k + 5) (lt_row hk (by decide)) (oX7_removeAt B.1.tr (10 * k + 5) (lt_row hk (by decide)) a1  _ _ _ h) (Nat.le_of_ble_eq_true rfl) (Nat.le_of_ble_eq_true rfl) (Nat.le_of_ble_eq_true rfl) (Nat.le_of_ble_eq_true rfl) (Nat.le_of_ble_eq_true rfl) dX5_close_5 rfl (fun s2 h => ?_)
  refine g_aload_n (np := 9) B.1 dX5_close_8 rfl rfl ?_
  refine gf_YOrders_20_3 (np := 12) B.1 k hk dX5_close_9 rfl ?_
  refine g_iload_n (np := 13) B.1 dX5_close_12 rfl rfl ?_
  refine gc_YOrders_56 (np := 16) B (10 * k + 6) (lt_row hk (by decide)) (oX7_removeAt B.1.tr (10 * k + 6) (lt_row hk (by decide)) a1  _ _ _ h) (Nat.le_of_ble_eq_true rfl) (Nat.le_of_ble_eq_true rfl) (Nat.le_of_ble_eq_true rfl) (Nat.le_of_ble_eq_true rfl) (Nat.le_of_ble_eq_true rfl) dX5_close_13 rfl (fun s4 h => ?_)
  refine g_aload_n (np := 17) B.1 dX5_close_16 rfl rfl ?_
  refine gf_YOrders_23_3 (np := 20) B.1 k hk dX5_close_17 rfl ?_
  refine g_iload_n (np := 21) B.1 dX5_close_20 rfl rfl ?_
  refine gc_YOrders_56 (np := 24) B (10 * k + 7) (lt_row hk (by decide)) (oX7_removeAt B.1.tr (10 * k + 7) (lt_row hk (by decide)) a1  _ _ _ h) (Nat.le_of_ble_eq_true rfl) (Nat.le_of_ble_eq_true rfl) (Nat.le_of_ble_eq_true rfl) (Nat.le_of_ble_eq_true rfl) (Nat.le_of_ble_eq_true rfl) dX5_close_21 rfl (fun s6 h => ?_)
  refine g_aload_n (np := 25) B.1 dX5_close_24 rfl rfl ?_
  refine gf_YOrders_26_3 (np := 28) B.1 k hk dX5_close_25 rfl ?_
  refine g_iload_n (np := 29) B.1 dX5_close_28 rfl rfl ?_
  refine gc_YOrders_56 (np := 32) B (10 * k + 8) (lt_row hk (by decide)) (oX7_removeAt B.1.tr (10 * k + 8) (lt_row hk (by decide)) a1  _ _ _ h) (Nat.le_of_ble_eq_true rfl) (Nat.le_of_ble_eq_true rfl) (Nat.le_of_ble_eq_true rfl) (Nat.le_of_ble_eq_true rfl) (Nat.le_of_ble_eq_true rfl) dX5_close_29 rfl (fun s8 h => ?_)
  refine g_aload_n (np := 33) B.1 dX5_close_32 rfl rfl ?_
  refine gf_YOrders_14_3 (np := 36) B.1 k hk dX5_close_33 rfl ?_
  refine gc_YOrders_59 (np := 39) B (10 * k + 5) (lt_row hk (by decide)) (oX7_size B.1.tr (10 * k + 5) (lt_row hk (by decide))   _ _ _ h) (Nat.le_of_ble_eq_true rfl) (Nat.le_of_ble_eq_true rfl) (Nat.le_of_ble_eq_true rfl) (Nat.le_of_ble_eq_true rfl) (Nat.le_of_ble_eq_true rfl) dX5_close_36 rfl (fun r9 s10 h => ?_)
  exact g_iret B (ty := .int) rfl rfl (Nat.le_of_ble_eq_true rfl) (Nat.le_of_ble_eq_true rfl) dX5_close_39 ⟨_, rfl, h⟩
def wX5_breakAt (k : Nat) (a1 : Int32) (s0 : Mem) (Q : Int32 → Mem → Prop) (E : String → Mem → Prop) : Prop := wX7_get (10 * k + 7) a1 s0 (fun (r1 : Int32) (s2 : Mem) => Q (3 + r1) s2) E
set_option maxRecDepth 20000 in
set_option maxHeartbeats 4000000 in
theorem oX5_breakAt {l : Launch} {x : Ctx} (hl : l.stackTraces = false) (k : Nat) (hk : k < 11) (a1 : Int32)  (s0 : Mem) (Q : Int32 → Mem → Prop) (E : String → Mem → Prop) (h : wX5_breakAt k a1 s0 Q E) : MetG l x yX5_breakAt cX5_breakAt 2 (some .int) 1 21 0 0 [.ref (xad x 3 k), .int a1] s0 (RI Q) E := by
  refine MetG.of hl (by decide) (Nat.le_of_ble_eq_true rfl) [some (.ref (xad x 3 k)), some (.int a1)] rfl (fun K B hx _ => ?_)
  subst hx
  unfold wX5_breakAt at h
  refine g_iconst (np := 1) (v := 3) B.1 dX5_breakAt_0 (by decide) rfl ?_
  refine g_aload_n (np := 2) B.1 dX5_breakAt_1 rfl rfl ?_
  refine gf_YOrders_23_3 (np := 5) B.1 k hk dX5_breakAt_2 rfl ?_
  refine g_iload_n (np := 6) B.1 dX5_breakAt_5 rfl rfl ?_
  refine gc_YOrders_63 (np := 9) B (10 * k + 7) (lt_row hk (by decide)) (oX7_get B.1.tr (10 * k + 7) (lt_row hk (by decide)) a1  _ _ _ h) (Nat.le_of_ble_eq_true rfl) (Nat.le_of_ble_eq_true rfl) (Nat.le_of_ble_eq_true rfl) (Nat.le_of_ble_eq_true rfl) (Nat.le_of_ble_eq_true rfl) dX5_breakAt_6 rfl (fun r1 s2 h => ?_)
  refine g_iadd (np := 10) B.1 dX5_breakAt_9 rfl ?_
  exact g_iret B (ty := .int) rfl rfl (Nat.le_of_ble_eq_true rfl) (Nat.le_of_ble_eq_true rfl) dX5_breakAt_10 ⟨_, rfl, h⟩
def wX5_piecesAt (k : Nat) (a1 : Int32) (s0 : Mem) (Q : Int32 → Mem → Prop) (E : String → Mem → Prop) : Prop := wX5_breakAt k a1 s0 (fun (r1 : Int32) (s2 : Mem) => ((1 ≤ r1 → wX7_get (10 * k + 6) a1 s2 (fun (r3 : Int32) (s4 : Mem) => (¬ r1 = 0) ∧ Q (((r3 + r1) - 1) / r1) s4) E) ∧ (¬ 1 ≤ r1 → Q 0 s2))) E
set_option maxRecDepth 20000 in
set_option maxHeartbeats 4000000 in
theorem oX5_piecesAt {l : Launch} {x : Ctx} (hl : l.stackTraces = false) (k : Nat) (hk : k < 11) (a1 : Int32)  (s0 : Mem) (Q : Int32 → Mem → Prop) (E : String → Mem → Prop) (h : wX5_piecesAt k a1 s0 Q E) : MetG l x yX5_piecesAt cX5_piecesAt 3 (some .int) 2 42 0 0 [.ref (xad x 3 k), .int a1] s0 (RI Q) E := by
  refine MetG.of hl (by decide) (Nat.le_of_ble_eq_true rfl) [some (.ref (xad x 3 k)), some (.int a1), none] rfl (fun K B hx _ => ?_)
  subst hx
  unfold wX5_piecesAt at h
  refine g_aload_n (np := 1) B.1 dX5_piecesAt_0 rfl rfl ?_
  refine g_iload_n (np := 2) B.1 dX5_piecesAt_1 rfl rfl ?_
  refine gc_YOrders_67 (np := 5) B k hk (oX5_breakAt B.1.tr k hk a1  _ _ _ h) (Nat.le_of_ble_eq_true rfl) (Nat.le_of_ble_eq_true rfl) (Nat.le_of_ble_eq_true rfl) (Nat.le_of_ble_eq_true rfl) (Nat.le_of_ble_eq_true rfl) dX5_piecesAt_2 rfl (fun r1 s2 h => ?_)
  refine g_istore_n (np := 6) (lv' := [some (.ref (xad (fX K) 3 k)), some (.int a1), some (.int r1)]) B.1 dX5_piecesAt_5 (by decide) rfl rfl rfl ?_
  refine g_iload_n (np := 7) B.1 dX5_piecesAt_6 rfl rfl ?_
  refine g_iconst (np := 8) (v := 1) B.1 dX5_piecesAt_7 (by decide) rfl ?_
  refine g_icmp_ge (np := 11) (tgt := 15) B.1 dX5_piecesAt_8 (by decide) rfl (fun q => ?_) (fun q => ?_)
  · replace h := h.1 q
    refine g_aload_n (np := 16) B.1 dX5_piecesAt_15 rfl rfl ?_
    refine gf_YOrders_20_3 (np := 19) B.1 k hk dX5_piecesAt_16 rfl ?_
    refine g_iload_n (np := 20) B.1 dX5_piecesAt_19 rfl rfl ?_
    refine gc_YOrders_63 (np := 23) B (10 * k + 6) (lt_row hk (by decide)) (oX7_get B.1.tr (10 * k + 6) (lt_row hk (by decide)) a1  _ _ _ h) (Nat.le_of_ble_eq_true rfl) (Nat.le_of_ble_eq_true rfl) (Nat.le_of_ble_eq_true rfl) (Nat.le_of_ble_eq_true rfl) (Nat.le_of_ble_eq_true rfl) dX5_piecesAt_20 rfl (fun r3 s4 h => ?_)
    refine g_iload_n (np := 24) B.1 dX5_piecesAt_23 rfl rfl ?_
    refine g_iadd (np := 25) B.1 dX5_piecesAt_24 rfl ?_
    refine g_iconst (np := 26) (v := 1) B.1 dX5_piecesAt_25 (by decide) rfl ?_
    refine g_isub (np := 27) B.1 dX5_piecesAt_26 rfl ?_
    refine g_iload_n (np := 28) B.1 dX5_piecesAt_27 rfl rfl ?_
    refine g_idiv (np := 29) B.1 dX5_piecesAt_28 h.1 rfl ?_
    replace h := h.2
    exact g_iret B (ty := .int) rfl rfl (Nat.le_of_ble_eq_true rfl) (Nat.le_of_ble_eq_true rfl) dX5_piecesAt_29 ⟨_, rfl, h⟩
  · replace h := h.2 q
    refine g_iconst (np := 12) (v := 0) B.1 dX5_piecesAt_11 (by decide) rfl ?_
    refine g_goto (tgt := 29) B.1 dX5_piecesAt_12 (by decide) ?_
    exact g_iret B (ty := .int) rfl rfl (Nat.le_of_ble_eq_true rfl) (Nat.le_of_ble_eq_true rfl) dX5_piecesAt_29 ⟨_, rfl, h⟩
def wX5_isFirstOfKind_2 (k : Nat)  (Q : Int32 → Mem → Prop) (E : String → Mem → Prop)  (X45 : Mem → Prop) (X53 : Mem → Prop) : Nat → Int32 → Int32 → Mem → Prop
  | 0, _, _, _ => False
  | n2 + 1, v1, v2, s0 => ((v1 ≤ v2 → X53  s0) ∧ (¬ v1 ≤ v2 → wX7_get (10 * k + 6) v2 s0 (fun (r1 : Int32) (s2 : Mem) => wX7_get (10 * k + 6) v1 s2 (fun (r3 : Int32) (s4 : Mem) => ((¬ r1 = r3 → ∀ v2_5 : Int32, v2_5 = (v2 + 1) → wX5_isFirstOfKind_2 k  Q E X45 X53 n2 v1 v2_5 s4) ∧ (r1 = r3 → wX7_get (10 * k + 7) v2 s4 (fun (r6 : Int32) (s7 : Mem) => wX7_get (10 * k + 7) v1 s7 (fun (r8 : Int32) (s9 : Mem) => ((¬ r6 = r8 → ∀ v2_10 : Int32, v2_10 = (v2 + 1) → wX5_isFirstOfKind_2 k  Q E X45 X53 n2 v1 v2_10 s9) ∧ (r6 = r8 → X45  s9))) E) E))) E) E))
def wX5_isFirstOfKind (k : Nat) (a1 : Int32) (s0 : Mem) (Q : Int32 → Mem → Prop) (E : String → Mem → Prop) : Prop := ∃ m13 : Nat, wX5_isFirstOfKind_2 k  Q E (fun (s11 : Mem) => Q 0 s11) (fun (s12 : Mem) => Q 1 s12) m13 a1 0  s0
set_option maxRecDepth 20000 in
set_option maxHeartbeats 4000000 in
theorem oX5_isFirstOfKind_2 {K : Fr} {Q : Int32 → Mem → Prop} {E : String → Mem → Prop} (B : Bd K cX5_isFirstOfKind "YarnMill$Orders" 3 (some .boolean) 1 21 0 0 (RI Q) E) (k : Nat)  (hk : k < 11) {X45 : Mem → Prop} {X53 : Mem → Prop} {cells slots : Nat} (hX45 : ∀ (τ : Mem), X45  τ → Go K cells slots τ 45 [none, none, none] ([])) (hX53 : ∀ (τ : Mem), X53  τ → Go K cells slots τ 53 [none, none, none] ([])) (hc : cells ≤ 0) (hs : slots ≤ 0) : ∀ (n : Nat) (v1 : Int32) (v2 : Int32) (s0 : Mem), wX5_isFirstOfKind_2 k  Q E X45 X53 n v1 v2 s0 → Go K cells slots s0 2 [some (.ref (xad (fX K) 3 k)), some (.int v1), some (.int v2)] ([]) := by
  intro n
  induction n with
  | zero => intro v1 v2 s0 h; exact absurd h (by simp [wX5_isFirstOfKind_2])
  | succ n ih =>
    intro v1 v2 s0 h
    simp only [wX5_isFirstOfKind_2] at h
    refine g_iload_n (np := 3) B.1 dX5_isFirstOfKind_2 rfl rfl ?_
    refine g_iload_n (np := 4) B.1 dX5_isFirstOfKind_3 rfl rfl ?_
    refine g_icmp_ge (np := 7) (tgt := 53) B.1 dX5_isFirstOfKind_4 (by decide) rfl (fun q => ?_) (fun q => ?_)
    · replace h := h.1 q
      refine Go.lle [none, none, none] (by simp [lle]) ?_
      exact hX53  s0 h
    · replace h := h.2 q
      refine g_aload_n (np := 8) B.1 dX5_isFirstOfKind_7 rfl rfl ?_
      refine gf_YOrders_20_3 (np := 11) B.1 k hk dX5_isFirstOfKind_8 rfl ?_
      refine g_iload_n (np := 12) B.1 dX5_isFirstOfKind_11 rfl rfl ?_
      refine gc_YOrders_63 (np := 15) B (10 * k + 6) (lt_row hk (by decide)) (oX7_get B.1.tr (10 * k + 6) (lt_row hk (by decide)) v2  _ _ _ h) (Nat.le_of_ble_eq_true rfl) (Nat.le_of_ble_eq_true rfl) (Nat.le_of_ble_eq_true rfl) hc hs dX5_isFirstOfKind_12 rfl (fun r1 s2 h => ?_)
      refine g_aload_n (np := 16) B.1 dX5_isFirstOfKind_15 rfl rfl ?_
      refine gf_YOrders_20_3 (np := 19) B.1 k hk dX5_isFirstOfKind_16 rfl ?_
      refine g_iload_n (np := 20) B.1 dX5_isFirstOfKind_19 rfl rfl ?_
      refine gc_YOrders_63 (np := 23) B (10 * k + 6) (lt_row hk (by decide)) (oX7_get B.1.tr (10 * k + 6) (lt_row hk (by decide)) v1  _ _ _ h) (Nat.le_of_ble_eq_true rfl) (Nat.le_of_ble_eq_true rfl) (Nat.le_of_ble_eq_true rfl) hc hs dX5_isFirstOfKind_20 rfl (fun r3 s4 h => ?_)
      refine g_icmp_ne (np := 26) (tgt := 47) B.1 dX5_isFirstOfKind_23 (by decide) rfl (fun q => ?_) (fun q => ?_)
      · replace h := h.1 q
        obtain ⟨v2_5, ev2_5⟩ : ∃ y : Int32, y = v2 + 1 := ⟨_, rfl⟩
        replace h := h v2_5 ev2_5
        refine g_iinc (np := 50) (v := v2_5) (lv' := [some (.ref (xad (fX K) 3 k)), some (.int v1), some (.int v2_5)]) B.1 dX5_isFirstOfKind_47 rfl (by rw [ev2_5]; rfl) (by decide) rfl rfl rfl ?_
        refine g_goto (tgt := 2) B.1 dX5_isFirstOfKind_50 (by decide) ?_
        refine Go.lle [some (.ref (xad (fX K) 3 k)), some (.int v1), some (.int v2_5)] (by simp [lle]) ?_
        exact ih v1 v2_5 s4 h
      · replace h := h.2 q
        refine g_aload_n (np := 27) B.1 dX5_isFirstOfKind_26 rfl rfl ?_
        refine gf_YOrders_23_3 (np := 30) B.1 k hk dX5_isFirstOfKind_27 rfl ?_
        refine g_iload_n (np := 31) B.1 dX5_isFirstOfKind_30 rfl rfl ?_
        refine gc_YOrders_63 (np := 34) B (10 * k + 7) (lt_row hk (by decide)) (oX7_get B.1.tr (10 * k + 7) (lt_row hk (by decide)) v2  _ _ _ h) (Nat.le_of_ble_eq_true rfl) (Nat.le_of_ble_eq_true rfl) (Nat.le_of_ble_eq_true rfl) hc hs dX5_isFirstOfKind_31 rfl (fun r6 s7 h => ?_)
        refine g_aload_n (np := 35) B.1 dX5_isFirstOfKind_34 rfl rfl ?_
        refine gf_YOrders_23_3 (np := 38) B.1 k hk dX5_isFirstOfKind_35 rfl ?_
        refine g_iload_n (np := 39) B.1 dX5_isFirstOfKind_38 rfl rfl ?_
        refine gc_YOrders_63 (np := 42) B (10 * k + 7) (lt_row hk (by decide)) (oX7_get B.1.tr (10 * k + 7) (lt_row hk (by decide)) v1  _ _ _ h) (Nat.le_of_ble_eq_true rfl) (Nat.le_of_ble_eq_true rfl) (Nat.le_of_ble_eq_true rfl) hc hs dX5_isFirstOfKind_39 rfl (fun r8 s9 h => ?_)
        refine g_icmp_ne (np := 45) (tgt := 47) B.1 dX5_isFirstOfKind_42 (by decide) rfl (fun q => ?_) (fun q => ?_)
        · replace h := h.1 q
          obtain ⟨v2_10, ev2_10⟩ : ∃ y : Int32, y = v2 + 1 := ⟨_, rfl⟩
          replace h := h v2_10 ev2_10
          refine g_iinc (np := 50) (v := v2_10) (lv' := [some (.ref (xad (fX K) 3 k)), some (.int v1), some (.int v2_10)]) B.1 dX5_isFirstOfKind_47 rfl (by rw [ev2_10]; rfl) (by decide) rfl rfl rfl ?_
          refine g_goto (tgt := 2) B.1 dX5_isFirstOfKind_50 (by decide) ?_
          refine Go.lle [some (.ref (xad (fX K) 3 k)), some (.int v1), some (.int v2_10)] (by simp [lle]) ?_
          exact ih v1 v2_10 s9 h
        · replace h := h.2 q
          refine Go.lle [none, none, none] (by simp [lle]) ?_
          exact hX45  s9 h
set_option maxRecDepth 20000 in
set_option maxHeartbeats 4000000 in
theorem oX5_isFirstOfKind {l : Launch} {x : Ctx} (hl : l.stackTraces = false) (k : Nat) (hk : k < 11) (a1 : Int32)  (s0 : Mem) (Q : Int32 → Mem → Prop) (E : String → Mem → Prop) (h : wX5_isFirstOfKind k a1 s0 Q E) : MetG l x yX5_isFirstOfKind cX5_isFirstOfKind 3 (some .boolean) 1 21 0 0 [.ref (xad x 3 k), .int a1] s0 (RI Q) E := by
  refine MetG.of hl (by decide) (Nat.le_of_ble_eq_true rfl) [some (.ref (xad x 3 k)), some (.int a1), none] rfl (fun K B hx _ => ?_)
  subst hx
  unfold wX5_isFirstOfKind at h
  refine g_iconst (np := 1) (v := 0) B.1 dX5_isFirstOfKind_0 (by decide) rfl ?_
  refine g_istore_n (np := 2) (lv' := [some (.ref (xad (fX K) 3 k)), some (.int a1), some (.int 0)]) B.1 dX5_isFirstOfKind_1 (by decide) rfl rfl rfl ?_
  obtain ⟨m13, h⟩ := h
  refine Go.lle [some (.ref (xad (fX K) 3 k)), some (.int a1), some (.int 0)] (by simp [lle]) ?_
  refine oX5_isFirstOfKind_2 B k  hk (fun s11 h => ?_) (fun s12 h => ?_) (Nat.le_of_ble_eq_true rfl) (Nat.le_of_ble_eq_true rfl) m13 a1 0  s0 h
  · refine g_iconst (np := 46) (v := 0) B.1 dX5_isFirstOfKind_45 (by decide) rfl ?_
    exact g_iret B (ty := .boolean) rfl (by decide) (Nat.le_of_ble_eq_true rfl) (Nat.le_of_ble_eq_true rfl) dX5_isFirstOfKind_46 ⟨_, rfl, h⟩
  · refine g_iconst (np := 54) (v := 1) B.1 dX5_isFirstOfKind_53 (by decide) rfl ?_
    exact g_iret B (ty := .boolean) rfl (by decide) (Nat.le_of_ble_eq_true rfl) (Nat.le_of_ble_eq_true rfl) dX5_isFirstOfKind_54 ⟨_, rfl, h⟩
def wX5_countKinds_4 (k : Nat)  (Q : Int32 → Mem → Prop) (E : String → Mem → Prop)  (X32 : Int32 → Mem → Prop) : Nat → Int32 → Int32 → Mem → Prop
  | 0, _, _, _ => False
  | n4 + 1, v1, v2, s0 => wX7_size (10 * k + 5)  s0 (fun (r1 : Int32) (s2 : Mem) => ((r1 ≤ v2 → X32 v1 s2) ∧ (¬ r1 ≤ v2 → wX5_isFirstOfKind k v2 s2 (fun (r3 : Int32) (s4 : Mem) => ((r3 = 0 → ∀ v2_5 : Int32, v2_5 = (v2 + 1) → wX5_countKinds_4 k  Q E X32 n4 v1 v2_5 s4) ∧ (¬ r3 = 0 → ∀ v1_6 : Int32, v1_6 = (v1 + 1) → ∀ v2_7 : Int32, v2_7 = (v2 + 1) → wX5_countKinds_4 k  Q E X32 n4 v1_6 v2_7 s4))) E))) E
def wX5_countKinds (k : Nat)  (s0 : Mem) (Q : Int32 → Mem → Prop) (E : String → Mem → Prop) : Prop := ∃ m10 : Nat, wX5_countKinds_4 k  Q E (fun (x1_8 : Int32) (s9 : Mem) => Q x1_8 s9) m10 0 0  s0
set_option maxRecDepth 20000 in
set_option maxHeartbeats 4000000 in
theorem oX5_countKinds_4 {K : Fr} {Q : Int32 → Mem → Prop} {E : String → Mem → Prop} (B : Bd K cX5_countKinds "YarnMill$Orders" 3 (some .int) 2 43 0 0 (RI Q) E) (k : Nat)  (hk : k < 11) {X32 : Int32 → Mem → Prop} {cells slots : Nat} (hX32 : ∀ (y1 : Int32) (τ : Mem), X32 y1 τ → Go K cells slots τ 32 [none, some (.int y1), none] ([])) (hc : cells ≤ 0) (hs : slots ≤ 0) : ∀ (n : Nat) (v1 : Int32) (v2 : Int32) (s0 : Mem), wX5_countKinds_4 k  Q E X32 n v1 v2 s0 → Go K cells slots s0 4 [some (.ref (xad (fX K) 3 k)), some (.int v1), some (.int v2)] ([]) := by
  intro n
  induction n with
  | zero => intro v1 v2 s0 h; exact absurd h (by simp [wX5_countKinds_4])
  | succ n ih =>
    intro v1 v2 s0 h
    simp only [wX5_countKinds_4] at h
    refine g_iload_n (np := 5) B.1 dX5_countKinds_4 rfl rfl ?_
    refine g_aload_n (np := 6) B.1 dX5_countKinds_5 rfl rfl ?_
    refine gf_YOrders_14_3 (np := 9) B.1 k hk dX5_countKinds_6 rfl ?_
    refine gc_YOrders_59 (np := 12) B (10 * k + 5) (lt_row hk (by decide)) (oX7_size B.1.tr (10 * k + 5) (lt_row hk (by decide))   _ _ _ h) (Nat.le_of_ble_eq_true rfl) (Nat.le_of_ble_eq_true rfl) (Nat.le_of_ble_eq_true rfl) hc hs dX5_countKinds_9 rfl (fun r1 s2 h => ?_)
    refine g_icmp_ge (np := 15) (tgt := 32) B.1 dX5_countKinds_12 (by decide) rfl (fun q => ?_) (fun q => ?_)
    · replace h := h.1 q
      refine Go.lle [none, some (.int v1), none] (by simp [lle]) ?_
      exact hX32 v1 s2 h
    · replace h := h.2 q
      refine g_aload_n (np := 16) B.1 dX5_countKinds_15 rfl rfl ?_
      refine g_iload_n (np := 17) B.1 dX5_countKinds_16 rfl rfl ?_
      refine gc_YOrders_70 (np := 20) B k hk (oX5_isFirstOfKind B.1.tr k hk v2  _ _ _ h) (Nat.le_of_ble_eq_true rfl) (Nat.le_of_ble_eq_true rfl) (Nat.le_of_ble_eq_true rfl) hc hs dX5_countKinds_17 rfl (fun r3 s4 h => ?_)
      refine g_if_eq (np := 23) (tgt := 26) B.1 dX5_countKinds_20 (by decide) rfl (fun q => ?_) (fun q => ?_)
      · replace h := h.1 q
        obtain ⟨v2_5, ev2_5⟩ : ∃ y : Int32, y = v2 + 1 := ⟨_, rfl⟩
        replace h := h v2_5 ev2_5
        refine g_iinc (np := 29) (v := v2_5) (lv' := [some (.ref (xad (fX K) 3 k)), some (.int v1), some (.int v2_5)]) B.1 dX5_countKinds_26 rfl (by rw [ev2_5]; rfl) (by decide) rfl rfl rfl ?_
        refine g_goto (tgt := 4) B.1 dX5_countKinds_29 (by decide) ?_
        refine Go.lle [some (.ref (xad (fX K) 3 k)), some (.int v1), some (.int v2_5)] (by simp [lle]) ?_
        exact ih v1 v2_5 s4 h
      · replace h := h.2 q
        obtain ⟨v1_6, ev1_6⟩ : ∃ y : Int32, y = v1 + 1 := ⟨_, rfl⟩
        replace h := h v1_6 ev1_6
        refine g_iinc (np := 26) (v := v1_6) (lv' := [some (.ref (xad (fX K) 3 k)), some (.int v1_6), some (.int v2)]) B.1 dX5_countKinds_23 rfl (by rw [ev1_6]; rfl) (by decide) rfl rfl rfl ?_
        obtain ⟨v2_7, ev2_7⟩ : ∃ y : Int32, y = v2 + 1 := ⟨_, rfl⟩
        replace h := h v2_7 ev2_7
        refine g_iinc (np := 29) (v := v2_7) (lv' := [some (.ref (xad (fX K) 3 k)), some (.int v1_6), some (.int v2_7)]) B.1 dX5_countKinds_26 rfl (by rw [ev2_7]; rfl) (by decide) rfl rfl rfl ?_
        refine g_goto (tgt := 4) B.1 dX5_countKinds_29 (by decide) ?_
        refine Go.lle [some (.ref (xad (fX K) 3 k)), some (.int v1_6), some (.int v2_7)] (by simp [lle]) ?_
        exact ih v1_6 v2_7 s4 h
set_option maxRecDepth 20000 in
set_option maxHeartbeats 4000000 in
theorem oX5_countKinds {l : Launch} {x : Ctx} (hl : l.stackTraces = false) (k : Nat) (hk : k < 11)   (s0 : Mem) (Q : Int32 → Mem → Prop) (E : String → Mem → Prop) (h : wX5_countKinds k  s0 Q E) : MetG l x yX5_countKinds cX5_countKinds 3 (some .int) 2 43 0 0 [.ref (xad x 3 k)] s0 (RI Q) E := by
  refine MetG.of hl (by decide) (Nat.le_of_ble_eq_true rfl) [some (.ref (xad x 3 k)), none, none] rfl (fun K B hx _ => ?_)
  subst hx
  unfold wX5_countKinds at h
  refine g_iconst (np := 1) (v := 0) B.1 dX5_countKinds_0 (by decide) rfl ?_
  refine g_istore_n (np := 2) (lv' := [some (.ref (xad (fX K) 3 k)), some (.int 0), none]) B.1 dX5_countKinds_1 (by decide) rfl rfl rfl ?_
  refine g_iconst (np := 3) (v := 0) B.1 dX5_countKinds_2 (by decide) rfl ?_
  refine g_istore_n (np := 4) (lv' := [some (.ref (xad (fX K) 3 k)), some (.int 0), some (.int 0)]) B.1 dX5_countKinds_3 (by decide) rfl rfl rfl ?_
  obtain ⟨m10, h⟩ := h
  refine Go.lle [some (.ref (xad (fX K) 3 k)), some (.int 0), some (.int 0)] (by simp [lle]) ?_
  refine oX5_countKinds_4 B k  hk (fun x1_8 s9 h => ?_) (Nat.le_of_ble_eq_true rfl) (Nat.le_of_ble_eq_true rfl) m10 0 0  s0 h
  refine g_iload_n (np := 33) B.1 dX5_countKinds_32 rfl rfl ?_
  exact g_iret B (ty := .int) rfl rfl (Nat.le_of_ble_eq_true rfl) (Nat.le_of_ble_eq_true rfl) dX5_countKinds_33 ⟨_, rfl, h⟩
def wX5_putKeys_6 (k : Nat)  (Q : Mem → Prop) (E : String → Mem → Prop)  (X36 : Mem → Prop) : Nat → Int32 → Mem → Prop
  | 0, _, _ => False
  | n6 + 1, v2, s0 => wX7_size (10 * k + 5)  s0 (fun (r3 : Int32) (s4 : Mem) => ((r3 ≤ v2 → X36  s4) ∧ (¬ r3 ≤ v2 → wX7_get (10 * k + 8) v2 s4 (fun (r5 : Int32) (s6 : Mem) => wX7_add 110 (-r5) s6 (fun (s8 : Mem) => ∀ v2_9 : Int32, v2_9 = (v2 + 1) → wX5_putKeys_6 k  Q E X36 n6 v2_9 s8) E) E))) E
def wX5_putKeys (k : Nat)  (s0 : Mem) (Q : Mem → Prop) (E : String → Mem → Prop) : Prop := wX7_clear 110  s0 (fun (s2 : Mem) => ∃ m11 : Nat, wX5_putKeys_6 k  Q E (fun (s10 : Mem) => Q s10) m11 0  s2) E
set_option maxRecDepth 20000 in
set_option maxHeartbeats 4000000 in
theorem oX5_putKeys_6 {K : Fr} {Q : Mem → Prop} {E : String → Mem → Prop} (B : Bd K cX5_putKeys "YarnMill$Orders" 3 none 1 21 0 0 (RV Q) E) (k : Nat)  (hk : k < 11) {X36 : Mem → Prop} {cells slots : Nat} (hX36 : ∀ (τ : Mem), X36  τ → Go K cells slots τ 36 [none, none, none] ([])) (hc : cells ≤ 0) (hs : slots ≤ 0) : ∀ (n : Nat) (v2 : Int32) (s0 : Mem), wX5_putKeys_6 k  Q E X36 n v2 s0 → Go K cells slots s0 6 [some (.ref (xad (fX K) 3 k)), some (.ref (xad (fX K) 0 110)), some (.int v2)] ([]) := by
  intro n
  induction n with
  | zero => intro v2 s0 h; exact absurd h (by simp [wX5_putKeys_6])
  | succ n ih =>
    intro v2 s0 h
    simp only [wX5_putKeys_6] at h
    refine g_iload_n (np := 7) B.1 dX5_putKeys_6 rfl rfl ?_
    refine g_aload_n (np := 8) B.1 dX5_putKeys_7 rfl rfl ?_
    refine gf_YOrders_14_3 (np := 11) B.1 k hk dX5_putKeys_8 rfl ?_
    refine gc_YOrders_59 (np := 14) B (10 * k + 5) (lt_row hk (by decide)) (oX7_size B.1.tr (10 * k + 5) (lt_row hk (by decide))   _ _ _ h) (Nat.le_of_ble_eq_true rfl) (Nat.le_of_ble_eq_true rfl) (Nat.le_of_ble_eq_true rfl) hc hs dX5_putKeys_11 rfl (fun r3 s4 h => ?_)
    refine g_icmp_ge (np := 17) (tgt := 36) B.1 dX5_putKeys_14 (by decide) rfl (fun q => ?_) (fun q => ?_)
    · replace h := h.1 q
      refine Go.lle [none, none, none] (by simp [lle]) ?_
      exact hX36  s4 h
    · replace h := h.2 q
      refine g_aload_n (np := 18) B.1 dX5_putKeys_17 rfl rfl ?_
      refine g_aload_n (np := 19) B.1 dX5_putKeys_18 rfl rfl ?_
      refine gf_YOrders_26_3 (np := 22) B.1 k hk dX5_putKeys_19 rfl ?_
      refine g_iload_n (np := 23) B.1 dX5_putKeys_22 rfl rfl ?_
      refine gc_YOrders_63 (np := 26) B (10 * k + 8) (lt_row hk (by decide)) (oX7_get B.1.tr (10 * k + 8) (lt_row hk (by decide)) v2  _ _ _ h) (Nat.le_of_ble_eq_true rfl) (Nat.le_of_ble_eq_true rfl) (Nat.le_of_ble_eq_true rfl) hc hs dX5_putKeys_23 rfl (fun r5 s6 h => ?_)
      refine g_ineg (np := 27) B.1 dX5_putKeys_26 rfl ?_
      refine gc_YOrders_53 (np := 30) B 110 (by decide : (110 : Nat) < 112) (oX7_add B.1.tr 110 (by decide : (110 : Nat) < 112) (-r5)  _ _ _ h) (Nat.le_of_ble_eq_true rfl) (Nat.le_of_ble_eq_true rfl) (Nat.le_of_ble_eq_true rfl) hc hs dX5_putKeys_27 rfl (fun s8 h => ?_)
      obtain ⟨v2_9, ev2_9⟩ : ∃ y : Int32, y = v2 + 1 := ⟨_, rfl⟩
      replace h := h v2_9 ev2_9
      refine g_iinc (np := 33) (v := v2_9) (lv' := [some (.ref (xad (fX K) 3 k)), some (.ref (xad (fX K) 0 110)), some (.int v2_9)]) B.1 dX5_putKeys_30 rfl (by rw [ev2_9]; rfl) (by decide) rfl rfl rfl ?_
      refine g_goto (tgt := 6) B.1 dX5_putKeys_33 (by decide) ?_
      refine Go.lle [some (.ref (xad (fX K) 3 k)), some (.ref (xad (fX K) 0 110)), some (.int v2_9)] (by simp [lle]) ?_
      exact ih v2_9 s8 h
set_option maxRecDepth 20000 in
set_option maxHeartbeats 4000000 in
theorem oX5_putKeys {l : Launch} {x : Ctx} (hl : l.stackTraces = false) (k : Nat) (hk : k < 11)   (s0 : Mem) (Q : Mem → Prop) (E : String → Mem → Prop) (h : wX5_putKeys k  s0 Q E) : MetG l x yX5_putKeys cX5_putKeys 3 none 1 21 0 0 [.ref (xad x 3 k), .ref (xad x 0 110)] s0 (RV Q) E := by
  refine MetG.of hl (by decide) (Nat.le_of_ble_eq_true rfl) [some (.ref (xad x 3 k)), some (.ref (xad x 0 110)), none] rfl (fun K B hx _ => ?_)
  subst hx
  unfold wX5_putKeys at h
  refine g_aload_n (np := 1) B.1 dX5_putKeys_0 rfl rfl ?_
  refine gc_YOrders_74 (np := 4) B 110 (by decide : (110 : Nat) < 112) (oX7_clear B.1.tr 110 (by decide : (110 : Nat) < 112)   _ _ _ h) (Nat.le_of_ble_eq_true rfl) (Nat.le_of_ble_eq_true rfl) (Nat.le_of_ble_eq_true rfl) (Nat.le_of_ble_eq_true rfl) (Nat.le_of_ble_eq_true rfl) dX5_putKeys_1 rfl (fun s2 h => ?_)
  refine g_iconst (np := 5) (v := 0) B.1 dX5_putKeys_4 (by decide) rfl ?_
  refine g_istore_n (np := 6) (lv' := [some (.ref (xad (fX K) 3 k)), some (.ref (xad (fX K) 0 110)), some (.int 0)]) B.1 dX5_putKeys_5 (by decide) rfl rfl rfl ?_
  obtain ⟨m11, h⟩ := h
  refine Go.lle [some (.ref (xad (fX K) 3 k)), some (.ref (xad (fX K) 0 110)), some (.int 0)] (by simp [lle]) ?_
  refine oX5_putKeys_6 B k  hk (fun s10 h => ?_) (Nat.le_of_ble_eq_true rfl) (Nat.le_of_ble_eq_true rfl) m11 0  s2 h
  exact g_vret B rfl (Nat.le_of_ble_eq_true rfl) (Nat.le_of_ble_eq_true rfl) dX5_putKeys_36 ⟨rfl, h⟩
def wX5_copyFrom (k : Nat) (k2 : Nat)  (s0 : Mem) (Q : Mem → Prop) (E : String → Mem → Prop) : Prop := wX7_copyFrom (10 * k + 5) (10 * k2 + 5)  s0 (fun (s2 : Mem) => wX7_copyFrom (10 * k + 6) (10 * k2 + 6)  s2 (fun (s4 : Mem) => wX7_copyFrom (10 * k + 7) (10 * k2 + 7)  s4 (fun (s6 : Mem) => wX7_copyFrom (10 * k + 8) (10 * k2 + 8)  s6 (fun (s8 : Mem) => ∀ s9 : Mem, s9 = wr s8 3 k 4 (rd s8 3 k2 4) → Q s9) E) E) E) E
set_option maxRecDepth 20000 in
set_option maxHeartbeats 4000000 in
theorem oX5_copyFrom {l : Launch} {x : Ctx} (hl : l.stackTraces = false) (k : Nat) (k2 : Nat) (hk : k < 11) (hk2 : k2 < 11)   (s0 : Mem) (Q : Mem → Prop) (E : String → Mem → Prop) (h : wX5_copyFrom k k2  s0 Q E) : MetG l x yX5_copyFrom cX5_copyFrom 2 none 2 81 0 0 [.ref (xad x 3 k), .ref (xad x 3 k2)] s0 (RV Q) E := by
  refine MetG.of hl (by decide) (Nat.le_of_ble_eq_true rfl) [some (.ref (xad x 3 k)), some (.ref (xad x 3 k2))] rfl (fun K B hx _ => ?_)
  subst hx
  unfold wX5_copyFrom at h
  refine g_aload_n (np := 1) B.1 dX5_copyFrom_0 rfl rfl ?_
  refine gf_YOrders_14_3 (np := 4) B.1 k hk dX5_copyFrom_1 rfl ?_
  refine g_aload_n (np := 5) B.1 dX5_copyFrom_4 rfl rfl ?_
  refine gf_YOrders_14_3 (np := 8) B.1 k2 hk2 dX5_copyFrom_5 rfl ?_
  refine gc_YOrders_77 (np := 11) B (10 * k + 5) (10 * k2 + 5) (lt_row hk (by decide)) (lt_row hk2 (by decide)) (oX7_copyFrom B.1.tr (10 * k + 5) (10 * k2 + 5) (lt_row hk (by decide)) (lt_row hk2 (by decide))   _ _ _ h) (Nat.le_of_ble_eq_true rfl) (Nat.le_of_ble_eq_true rfl) (Nat.le_of_ble_eq_true rfl) (Nat.le_of_ble_eq_true rfl) (Nat.le_of_ble_eq_true rfl) dX5_copyFrom_8 rfl (fun s2 h => ?_)
  refine g_aload_n (np := 12) B.1 dX5_copyFrom_11 rfl rfl ?_
  refine gf_YOrders_20_3 (np := 15) B.1 k hk dX5_copyFrom_12 rfl ?_
  refine g_aload_n (np := 16) B.1 dX5_copyFrom_15 rfl rfl ?_
  refine gf_YOrders_20_3 (np := 19) B.1 k2 hk2 dX5_copyFrom_16 rfl ?_
  refine gc_YOrders_77 (np := 22) B (10 * k + 6) (10 * k2 + 6) (lt_row hk (by decide)) (lt_row hk2 (by decide)) (oX7_copyFrom B.1.tr (10 * k + 6) (10 * k2 + 6) (lt_row hk (by decide)) (lt_row hk2 (by decide))   _ _ _ h) (Nat.le_of_ble_eq_true rfl) (Nat.le_of_ble_eq_true rfl) (Nat.le_of_ble_eq_true rfl) (Nat.le_of_ble_eq_true rfl) (Nat.le_of_ble_eq_true rfl) dX5_copyFrom_19 rfl (fun s4 h => ?_)
  refine g_aload_n (np := 23) B.1 dX5_copyFrom_22 rfl rfl ?_
  refine gf_YOrders_23_3 (np := 26) B.1 k hk dX5_copyFrom_23 rfl ?_
  refine g_aload_n (np := 27) B.1 dX5_copyFrom_26 rfl rfl ?_
  refine gf_YOrders_23_3 (np := 30) B.1 k2 hk2 dX5_copyFrom_27 rfl ?_
  refine gc_YOrders_77 (np := 33) B (10 * k + 7) (10 * k2 + 7) (lt_row hk (by decide)) (lt_row hk2 (by decide)) (oX7_copyFrom B.1.tr (10 * k + 7) (10 * k2 + 7) (lt_row hk (by decide)) (lt_row hk2 (by decide))   _ _ _ h) (Nat.le_of_ble_eq_true rfl) (Nat.le_of_ble_eq_true rfl) (Nat.le_of_ble_eq_true rfl) (Nat.le_of_ble_eq_true rfl) (Nat.le_of_ble_eq_true rfl) dX5_copyFrom_30 rfl (fun s6 h => ?_)
  refine g_aload_n (np := 34) B.1 dX5_copyFrom_33 rfl rfl ?_
  refine gf_YOrders_26_3 (np := 37) B.1 k hk dX5_copyFrom_34 rfl ?_
  refine g_aload_n (np := 38) B.1 dX5_copyFrom_37 rfl rfl ?_
  refine gf_YOrders_26_3 (np := 41) B.1 k2 hk2 dX5_copyFrom_38 rfl ?_
  refine gc_YOrders_77 (np := 44) B (10 * k + 8) (10 * k2 + 8) (lt_row hk (by decide)) (lt_row hk2 (by decide)) (oX7_copyFrom B.1.tr (10 * k + 8) (10 * k2 + 8) (lt_row hk (by decide)) (lt_row hk2 (by decide))   _ _ _ h) (Nat.le_of_ble_eq_true rfl) (Nat.le_of_ble_eq_true rfl) (Nat.le_of_ble_eq_true rfl) (Nat.le_of_ble_eq_true rfl) (Nat.le_of_ble_eq_true rfl) dX5_copyFrom_41 rfl (fun s8 h => ?_)
  refine g_aload_n (np := 45) B.1 dX5_copyFrom_44 rfl rfl ?_
  refine g_aload_n (np := 46) B.1 dX5_copyFrom_45 rfl rfl ?_
  refine gf_YOrders_49_3 (np := 49) B.1 k2 hk2 dX5_copyFrom_46 rfl ?_
  refine gp_YOrders_49_3 (np := 52) B.1 k hk dX5_copyFrom_49 rfl ?_
  refine g_mem (fun s9 es9 => ?_)
  replace h := h s9 es9
  exact g_vret B rfl (Nat.le_of_ble_eq_true rfl) (Nat.le_of_ble_eq_true rfl) dX5_copyFrom_52 ⟨rfl, h⟩
