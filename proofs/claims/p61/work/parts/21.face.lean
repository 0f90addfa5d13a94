def wX12_buyBale  (a1 : Int32) (a2 : Int32) (a3 : Int32) (s0 : Mem) (Q : Int32 → Mem → Prop) (E : String → Mem → Prop) : Prop := wX12_change  0 a1 a2 a3 s0 (fun (r1 : Int32) (s2 : Mem) => Q r1 s2) E
set_option maxRecDepth 20000 in
set_option maxHeartbeats 4000000 in
theorem oX12_buyBale {l : Launch} {x : Ctx} (hl : l.stackTraces = false)   (a1 : Int32) (a2 : Int32) (a3 : Int32)  (s0 : Mem) (Q : Int32 → Mem → Prop) (E : String → Mem → Prop) (h : wX12_buyBale  a1 a2 a3 s0 Q E) : MetG l x yX12_buyBale cX12_buyBale 4 (some .int) 8 169 1 6 [.ref (xad x 14 0), .int a1, .int a2, .int a3] s0 (RI Q) E := by
  refine MetG.of hl (by decide) (Nat.le_of_ble_eq_true rfl) [some (.ref (xad x 14 0)), some (.int a1), some (.int a2), some (.int a3)] rfl (fun K B hx _ => ?_)
  subst hx
  unfold wX12_buyBale at h
  refine g_aload_n (np := 1) B.1 dX12_buyBale_0 rfl rfl ?_
  refine g_getCmd (np := 4) B.1 0 (by decide) b_511 dX12_buyBale_1 rfl ?_
  refine g_iload_n (np := 5) B.1 dX12_buyBale_4 rfl rfl ?_
  refine g_iload_n (np := 6) B.1 dX12_buyBale_5 rfl rfl ?_
  refine g_iload_n (np := 7) B.1 dX12_buyBale_6 rfl rfl ?_
  refine gc_Y_86 (np := 10) B   (oX12_change B.1.tr   0 a1 a2 a3 (by decide) _ _ _ h) (Nat.le_of_ble_eq_true rfl) (Nat.le_of_ble_eq_true rfl) (Nat.le_of_ble_eq_true rfl) (Nat.le_of_ble_eq_true rfl) (Nat.le_of_ble_eq_true rfl) dX12_buyBale_7 rfl (fun r1 s2 h => ?_)
  exact g_iret B (ty := .int) rfl rfl (Nat.le_of_ble_eq_true rfl) (Nat.le_of_ble_eq_true rfl) dX12_buyBale_10 ⟨_, rfl, h⟩
def wX12_blend  (a1 : Int32) (a2 : Int32) (s0 : Mem) (Q : Int32 → Mem → Prop) (E : String → Mem → Prop) : Prop := wX12_change  1 a1 a2 0 s0 (fun (r1 : Int32) (s2 : Mem) => Q r1 s2) E
set_option maxRecDepth 20000 in
set_option maxHeartbeats 4000000 in
theorem oX12_blend {l : Launch} {x : Ctx} (hl : l.stackTraces = false)   (a1 : Int32) (a2 : Int32)  (s0 : Mem) (Q : Int32 → Mem → Prop) (E : String → Mem → Prop) (h : wX12_blend  a1 a2 s0 Q E) : MetG l x yX12_blend cX12_blend 3 (some .int) 8 169 1 6 [.ref (xad x 14 0), .int a1, .int a2] s0 (RI Q) E := by
  refine MetG.of hl (by decide) (Nat.le_of_ble_eq_true rfl) [some (.ref (xad x 14 0)), some (.int a1), some (.int a2)] rfl (fun K B hx _ => ?_)
  subst hx
  unfold wX12_blend at h
  refine g_aload_n (np := 1) B.1 dX12_blend_0 rfl rfl ?_
  refine g_getCmd (np := 4) B.1 1 (by decide) b_812 dX12_blend_1 rfl ?_
  refine g_iload_n (np := 5) B.1 dX12_blend_4 rfl rfl ?_
  refine g_iload_n (np := 6) B.1 dX12_blend_5 rfl rfl ?_
  refine g_iconst (np := 7) (v := 0) B.1 dX12_blend_6 (by decide) rfl ?_
  refine gc_Y_86 (np := 10) B   (oX12_change B.1.tr   1 a1 a2 0 (by decide) _ _ _ h) (Nat.le_of_ble_eq_true rfl) (Nat.le_of_ble_eq_true rfl) (Nat.le_of_ble_eq_true rfl) (Nat.le_of_ble_eq_true rfl) (Nat.le_of_ble_eq_true rfl) dX12_blend_7 rfl (fun r1 s2 h => ?_)
  exact g_iret B (ty := .int) rfl rfl (Nat.le_of_ble_eq_true rfl) (Nat.le_of_ble_eq_true rfl) dX12_blend_10 ⟨_, rfl, h⟩
def wX12_addOrder  (a1 : Int32) (a2 : Int32) (s0 : Mem) (Q : Int32 → Mem → Prop) (E : String → Mem → Prop) : Prop := wX12_change  2 a1 a2 0 s0 (fun (r1 : Int32) (s2 : Mem) => Q r1 s2) E
set_option maxRecDepth 20000 in
set_option maxHeartbeats 4000000 in
theorem oX12_addOrder {l : Launch} {x : Ctx} (hl : l.stackTraces = false)   (a1 : Int32) (a2 : Int32)  (s0 : Mem) (Q : Int32 → Mem → Prop) (E : String → Mem → Prop) (h : wX12_addOrder  a1 a2 s0 Q E) : MetG l x yX12_addOrder cX12_addOrder 3 (some .int) 8 169 1 6 [.ref (xad x 14 0), .int a1, .int a2] s0 (RI Q) E := by
  refine MetG.of hl (by decide) (Nat.le_of_ble_eq_true rfl) [some (.ref (xad x 14 0)), some (.int a1), some (.int a2)] rfl (fun K B hx _ => ?_)
  subst hx
  unfold wX12_addOrder at h
  refine g_aload_n (np := 1) B.1 dX12_addOrder_0 rfl rfl ?_
  refine g_getCmd (np := 4) B.1 2 (by decide) b_821 dX12_addOrder_1 rfl ?_
  refine g_iload_n (np := 5) B.1 dX12_addOrder_4 rfl rfl ?_
  refine g_iload_n (np := 6) B.1 dX12_addOrder_5 rfl rfl ?_
  refine g_iconst (np := 7) (v := 0) B.1 dX12_addOrder_6 (by decide) rfl ?_
  refine gc_Y_86 (np := 10) B   (oX12_change B.1.tr   2 a1 a2 0 (by decide) _ _ _ h) (Nat.le_of_ble_eq_true rfl) (Nat.le_of_ble_eq_true rfl) (Nat.le_of_ble_eq_true rfl) (Nat.le_of_ble_eq_true rfl) (Nat.le_of_ble_eq_true rfl) dX12_addOrder_7 rfl (fun r1 s2 h => ?_)
  exact g_iret B (ty := .int) rfl rfl (Nat.le_of_ble_eq_true rfl) (Nat.le_of_ble_eq_true rfl) dX12_addOrder_10 ⟨_, rfl, h⟩
def wX12_cancelOrder  (a1 : Int32) (s0 : Mem) (Q : Int32 → Mem → Prop) (E : String → Mem → Prop) : Prop := wX12_change  3 a1 0 0 s0 (fun (r1 : Int32) (s2 : Mem) => Q r1 s2) E
set_option maxRecDepth 20000 in
set_option maxHeartbeats 4000000 in
theorem oX12_cancelOrder {l : Launch} {x : Ctx} (hl : l.stackTraces = false)   (a1 : Int32)  (s0 : Mem) (Q : Int32 → Mem → Prop) (E : String → Mem → Prop) (h : wX12_cancelOrder  a1 s0 Q E) : MetG l x yX12_cancelOrder cX12_cancelOrder 2 (some .int) 8 169 1 6 [.ref (xad x 14 0), .int a1] s0 (RI Q) E := by
  refine MetG.of hl (by decide) (Nat.le_of_ble_eq_true rfl) [some (.ref (xad x 14 0)), some (.int a1)] rfl (fun K B hx _ => ?_)
  subst hx
  unfold wX12_cancelOrder at h
  refine g_aload_n (np := 1) B.1 dX12_cancelOrder_0 rfl rfl ?_
  refine g_getCmd (np := 4) B.1 3 (by decide) b_1277 dX12_cancelOrder_1 rfl ?_
  refine g_iload_n (np := 5) B.1 dX12_cancelOrder_4 rfl rfl ?_
  refine g_iconst (np := 6) (v := 0) B.1 dX12_cancelOrder_5 (by decide) rfl ?_
  refine g_iconst (np := 7) (v := 0) B.1 dX12_cancelOrder_6 (by decide) rfl ?_
  refine gc_Y_86 (np := 10) B   (oX12_change B.1.tr   3 a1 0 0 (by decide) _ _ _ h) (Nat.le_of_ble_eq_true rfl) (Nat.le_of_ble_eq_true rfl) (Nat.le_of_ble_eq_true rfl) (Nat.le_of_ble_eq_true rfl) (Nat.le_of_ble_eq_true rfl) dX12_cancelOrder_7 rfl (fun r1 s2 h => ?_)
  exact g_iret B (ty := .int) rfl rfl (Nat.le_of_ble_eq_true rfl) (Nat.le_of_ble_eq_true rfl) dX12_cancelOrder_10 ⟨_, rfl, h⟩
def wX12_setMachines  (a1 : Int32) (s0 : Mem) (Q : Int32 → Mem → Prop) (E : String → Mem → Prop) : Prop := wX12_change  4 a1 0 0 s0 (fun (r1 : Int32) (s2 : Mem) => Q r1 s2) E
set_option maxRecDepth 20000 in
set_option maxHeartbeats 4000000 in
theorem oX12_setMachines {l : Launch} {x : Ctx} (hl : l.stackTraces = false)   (a1 : Int32)  (s0 : Mem) (Q : Int32 → Mem → Prop) (E : String → Mem → Prop) (h : wX12_setMachines  a1 s0 Q E) : MetG l x yX12_setMachines cX12_setMachines 2 (some .int) 8 169 1 6 [.ref (xad x 14 0), .int a1] s0 (RI Q) E := by
  refine MetG.of hl (by decide) (Nat.le_of_ble_eq_true rfl) [some (.ref (xad x 14 0)), some (.int a1)] rfl (fun K B hx _ => ?_)
  subst hx
  unfold wX12_setMachines at h
  refine g_aload_n (np := 1) B.1 dX12_setMachines_0 rfl rfl ?_
  refine g_getCmd (np := 4) B.1 4 (by decide) b_1240 dX12_setMachines_1 rfl ?_
  refine g_iload_n (np := 5) B.1 dX12_setMachines_4 rfl rfl ?_
  refine g_iconst (np := 6) (v := 0) B.1 dX12_setMachines_5 (by decide) rfl ?_
  refine g_iconst (np := 7) (v := 0) B.1 dX12_setMachines_6 (by decide) rfl ?_
  refine gc_Y_86 (np := 10) B   (oX12_change B.1.tr   4 a1 0 0 (by decide) _ _ _ h) (Nat.le_of_ble_eq_true rfl) (Nat.le_of_ble_eq_true rfl) (Nat.le_of_ble_eq_true rfl) (Nat.le_of_ble_eq_true rfl) (Nat.le_of_ble_eq_true rfl) dX12_setMachines_7 rfl (fun r1 s2 h => ?_)
  exact g_iret B (ty := .int) rfl rfl (Nat.le_of_ble_eq_true rfl) (Nat.le_of_ble_eq_true rfl) dX12_setMachines_10 ⟨_, rfl, h⟩
def wX12_spin  (a1 : Int32) (s0 : Mem) (Q : Int32 → Mem → Prop) (E : String → Mem → Prop) : Prop := wX12_change  5 a1 0 0 s0 (fun (r1 : Int32) (s2 : Mem) => Q r1 s2) E
set_option maxRecDepth 20000 in
set_option maxHeartbeats 4000000 in
theorem oX12_spin {l : Launch} {x : Ctx} (hl : l.stackTraces = false)   (a1 : Int32)  (s0 : Mem) (Q : Int32 → Mem → Prop) (E : String → Mem → Prop) (h : wX12_spin  a1 s0 Q E) : MetG l x yX12_spin cX12_spin 2 (some .int) 8 169 1 6 [.ref (xad x 14 0), .int a1] s0 (RI Q) E := by
  refine MetG.of hl (by decide) (Nat.le_of_ble_eq_true rfl) [some (.ref (xad x 14 0)), some (.int a1)] rfl (fun K B hx _ => ?_)
  subst hx
  unfold wX12_spin at h
  refine g_aload_n (np := 1) B.1 dX12_spin_0 rfl rfl ?_
  refine g_getCmd (np := 4) B.1 5 (by decide) b_831 dX12_spin_1 rfl ?_
  refine g_iload_n (np := 5) B.1 dX12_spin_4 rfl rfl ?_
  refine g_iconst (np := 6) (v := 0) B.1 dX12_spin_5 (by decide) rfl ?_
  refine g_iconst (np := 7) (v := 0) B.1 dX12_spin_6 (by decide) rfl ?_
  refine gc_Y_86 (np := 10) B   (oX12_change B.1.tr   5 a1 0 0 (by decide) _ _ _ h) (Nat.le_of_ble_eq_true rfl) (Nat.le_of_ble_eq_true rfl) (Nat.le_of_ble_eq_true rfl) (Nat.le_of_ble_eq_true rfl) (Nat.le_of_ble_eq_true rfl) dX12_spin_7 rfl (fun r1 s2 h => ?_)
  exact g_iret B (ty := .int) rfl rfl (Nat.le_of_ble_eq_true rfl) (Nat.le_of_ble_eq_true rfl) dX12_spin_10 ⟨_, rfl, h⟩
def wX12_splice  (a1 : Int32) (s0 : Mem) (Q : Int32 → Mem → Prop) (E : String → Mem → Prop) : Prop := wX12_change  6 a1 0 0 s0 (fun (r1 : Int32) (s2 : Mem) => Q r1 s2) E
set_option maxRecDepth 20000 in
set_option maxHeartbeats 4000000 in
theorem oX12_splice {l : Launch} {x : Ctx} (hl : l.stackTraces = false)   (a1 : Int32)  (s0 : Mem) (Q : Int32 → Mem → Prop) (E : String → Mem → Prop) (h : wX12_splice  a1 s0 Q E) : MetG l x yX12_splice cX12_splice 2 (some .int) 8 169 1 6 [.ref (xad x 14 0), .int a1] s0 (RI Q) E := by
  refine MetG.of hl (by decide) (Nat.le_of_ble_eq_true rfl) [some (.ref (xad x 14 0)), some (.int a1)] rfl (fun K B hx _ => ?_)
  subst hx
  unfold wX12_splice at h
  refine g_aload_n (np := 1) B.1 dX12_splice_0 rfl rfl ?_
  refine g_getCmd (np := 4) B.1 6 (by decide) b_1286 dX12_splice_1 rfl ?_
  refine g_iload_n (np := 5) B.1 dX12_splice_4 rfl rfl ?_
  refine g_iconst (np := 6) (v := 0) B.1 dX12_splice_5 (by decide) rfl ?_
  refine g_iconst (np := 7) (v := 0) B.1 dX12_splice_6 (by decide) rfl ?_
  refine gc_Y_86 (np := 10) B   (oX12_change B.1.tr   6 a1 0 0 (by decide) _ _ _ h) (Nat.le_of_ble_eq_true rfl) (Nat.le_of_ble_eq_true rfl) (Nat.le_of_ble_eq_true rfl) (Nat.le_of_ble_eq_true rfl) (Nat.le_of_ble_eq_true rfl) dX12_splice_7 rfl (fun r1 s2 h => ?_)
  exact g_iret B (ty := .int) rfl rfl (Nat.le_of_ble_eq_true rfl) (Nat.le_of_ble_eq_true rfl) dX12_splice_10 ⟨_, rfl, h⟩
def wX12_spliceAll   (s0 : Mem) (Q : Int32 → Mem → Prop) (E : String → Mem → Prop) : Prop := wX12_change  7 0 0 0 s0 (fun (r1 : Int32) (s2 : Mem) => Q r1 s2) E
set_option maxRecDepth 20000 in
set_option maxHeartbeats 4000000 in
theorem oX12_spliceAll {l : Launch} {x : Ctx} (hl : l.stackTraces = false)     (s0 : Mem) (Q : Int32 → Mem → Prop) (E : String → Mem → Prop) (h : wX12_spliceAll   s0 Q E) : MetG l x yX12_spliceAll cX12_spliceAll 1 (some .int) 8 169 1 6 [.ref (xad x 14 0)] s0 (RI Q) E := by
  refine MetG.of hl (by decide) (Nat.le_of_ble_eq_true rfl) [some (.ref (xad x 14 0))] rfl (fun K B hx _ => ?_)
  subst hx
  unfold wX12_spliceAll at h
  refine g_aload_n (np := 1) B.1 dX12_spliceAll_0 rfl rfl ?_
  refine g_getCmd (np := 4) B.1 7 (by decide) b_1295 dX12_spliceAll_1 rfl ?_
  refine g_iconst (np := 5) (v := 0) B.1 dX12_spliceAll_4 (by decide) rfl ?_
  refine g_iconst (np := 6) (v := 0) B.1 dX12_spliceAll_5 (by decide) rfl ?_
  refine g_iconst (np := 7) (v := 0) B.1 dX12_spliceAll_6 (by decide) rfl ?_
  refine gc_Y_86 (np := 10) B   (oX12_change B.1.tr   7 0 0 0 (by decide) _ _ _ h) (Nat.le_of_ble_eq_true rfl) (Nat.le_of_ble_eq_true rfl) (Nat.le_of_ble_eq_true rfl) (Nat.le_of_ble_eq_true rfl) (Nat.le_of_ble_eq_true rfl) dX12_spliceAll_7 rfl (fun r1 s2 h => ?_)
  exact g_iret B (ty := .int) rfl rfl (Nat.le_of_ble_eq_true rfl) (Nat.le_of_ble_eq_true rfl) dX12_spliceAll_10 ⟨_, rfl, h⟩
def wX12_sell  (a1 : Int32) (s0 : Mem) (Q : Int32 → Mem → Prop) (E : String → Mem → Prop) : Prop := wX12_change  8 a1 0 0 s0 (fun (r1 : Int32) (s2 : Mem) => Q r1 s2) E
set_option maxRecDepth 20000 in
set_option maxHeartbeats 4000000 in
theorem oX12_sell {l : Launch} {x : Ctx} (hl : l.stackTraces = false)   (a1 : Int32)  (s0 : Mem) (Q : Int32 → Mem → Prop) (E : String → Mem → Prop) (h : wX12_sell  a1 s0 Q E) : MetG l x yX12_sell cX12_sell 2 (some .int) 8 169 1 6 [.ref (xad x 14 0), .int a1] s0 (RI Q) E := by
  refine MetG.of hl (by decide) (Nat.le_of_ble_eq_true rfl) [some (.ref (xad x 14 0)), some (.int a1)] rfl (fun K B hx _ => ?_)
  subst hx
  unfold wX12_sell at h
  refine g_aload_n (np := 1) B.1 dX12_sell_0 rfl rfl ?_
  refine g_getCmd (np := 4) B.1 8 (by decide) b_843 dX12_sell_1 rfl ?_
  refine g_iload_n (np := 5) B.1 dX12_sell_4 rfl rfl ?_
  refine g_iconst (np := 6) (v := 0) B.1 dX12_sell_5 (by decide) rfl ?_
  refine g_iconst (np := 7) (v := 0) B.1 dX12_sell_6 (by decide) rfl ?_
  refine gc_Y_86 (np := 10) B   (oX12_change B.1.tr   8 a1 0 0 (by decide) _ _ _ h) (Nat.le_of_ble_eq_true rfl) (Nat.le_of_ble_eq_true rfl) (Nat.le_of_ble_eq_true rfl) (Nat.le_of_ble_eq_true rfl) (Nat.le_of_ble_eq_true rfl) dX12_sell_7 rfl (fun r1 s2 h => ?_)
  exact g_iret B (ty := .int) rfl rfl (Nat.le_of_ble_eq_true rfl) (Nat.le_of_ble_eq_true rfl) dX12_sell_10 ⟨_, rfl, h⟩
def wX12_baleCount   (s0 : Mem) (Q : Int32 → Mem → Prop) (E : String → Mem → Prop) : Prop := wX7_size 0  s0 (fun (r1 : Int32) (s2 : Mem) => Q r1 s2) E
set_option maxRecDepth 20000 in
set_option maxHeartbeats 4000000 in
theorem oX12_baleCount {l : Launch} {x : Ctx} (hl : l.stackTraces = false)     (s0 : Mem) (Q : Int32 → Mem → Prop) (E : String → Mem → Prop) (h : wX12_baleCount   s0 Q E) : MetG l x yX12_baleCount cX12_baleCount 1 (some .int) 1 20 0 0 [.ref (xad x 14 0)] s0 (RI Q) E := by
  refine MetG.of hl (by decide) (Nat.le_of_ble_eq_true rfl) [some (.ref (xad x 14 0))] rfl (fun K B hx _ => ?_)
  subst hx
  unfold wX12_baleCount at h
  refine g_aload_n (np := 1) B.1 dX12_baleCount_0 rfl rfl ?_
  refine gf_Y_10_14 (np := 4) B.1 dX12_baleCount_1 rfl ?_
  refine gf_Y_114_4 (np := 7) B.1 0 (by decide : (0 : Nat) < 11) dX12_baleCount_4 rfl ?_
  refine gf_Y_118_2 (np := 10) B.1 0 (by decide : (0 : Nat) < 11) dX12_baleCount_7 rfl ?_
  refine gc_Y_123 (np := 13) B 0 (by decide : (0 : Nat) < 112) (oX7_size B.1.tr 0 (by decide : (0 : Nat) < 112)   _ _ _ h) (Nat.le_of_ble_eq_true rfl) (Nat.le_of_ble_eq_true rfl) (Nat.le_of_ble_eq_true rfl) (Nat.le_of_ble_eq_true rfl) (Nat.le_of_ble_eq_true rfl) dX12_baleCount_10 rfl (fun r1 s2 h => ?_)
  exact g_iret B (ty := .int) rfl rfl (Nat.le_of_ble_eq_true rfl) (Nat.le_of_ble_eq_true rfl) dX12_baleCount_13 ⟨_, rfl, h⟩
def wX12_baleAt  (a1 : Int32) (s0 : Mem) (Q : Int32 → Mem → Prop) (E : String → Mem → Prop) : Prop := wX7_has 0 a1 s0 (fun (r1 : Int32) (s2 : Mem) => ((¬ r1 = 0 → wX7_get 0 a1 s2 (fun (r3 : Int32) (s4 : Mem) => Q r3 s4) E) ∧ (r1 = 0 → E "java/util/NoSuchElementException" s2))) E
set_option maxRecDepth 20000 in
set_option maxHeartbeats 4000000 in
theorem oX12_baleAt {l : Launch} {x : Ctx} (hl : l.stackTraces = false)   (a1 : Int32)  (s0 : Mem) (Q : Int32 → Mem → Prop) (E : String → Mem → Prop) (h : wX12_baleAt  a1 s0 Q E) : MetG l x yX12_baleAt cX12_baleAt 2 (some .int) 6 82 1 6 [.ref (xad x 14 0), .int a1] s0 (RI Q) E := by
  refine MetG.of hl (by decide) (Nat.le_of_ble_eq_true rfl) [some (.ref (xad x 14 0)), some (.int a1)] rfl (fun K B hx _ => ?_)
  subst hx
  unfold wX12_baleAt at h
  refine g_aload_n (np := 1) B.1 dX12_baleAt_0 rfl rfl ?_
  refine gf_Y_10_14 (np := 4) B.1 dX12_baleAt_1 rfl ?_
  refine gf_Y_114_4 (np := 7) B.1 0 (by decide : (0 : Nat) < 11) dX12_baleAt_4 rfl ?_
  refine gf_Y_118_2 (np := 10) B.1 0 (by decide : (0 : Nat) < 11) dX12_baleAt_7 rfl ?_
  refine g_iload_n (np := 11) B.1 dX12_baleAt_10 rfl rfl ?_
  refine gc_Y_127 (np := 14) B 0 (by decide : (0 : Nat) < 112) (oX7_has B.1.tr 0 (by decide : (0 : Nat) < 112) a1  _ _ _ h) (Nat.le_of_ble_eq_true rfl) (Nat.le_of_ble_eq_true rfl) (Nat.le_of_ble_eq_true rfl) (Nat.le_of_ble_eq_true rfl) (Nat.le_of_ble_eq_true rfl) dX12_baleAt_11 rfl (fun r1 s2 h => ?_)
  refine g_if_ne (np := 17) (tgt := 27) B.1 dX12_baleAt_14 (by decide) rfl (fun q => ?_) (fun q => ?_)
  · replace h := h.1 q
    refine g_aload_n (np := 28) B.1 dX12_baleAt_27 rfl rfl ?_
    refine gf_Y_10_14 (np := 31) B.1 dX12_baleAt_28 rfl ?_
    refine gf_Y_114_4 (np := 34) B.1 0 (by decide : (0 : Nat) < 11) dX12_baleAt_31 rfl ?_
    refine gf_Y_118_2 (np := 37) B.1 0 (by decide : (0 : Nat) < 11) dX12_baleAt_34 rfl ?_
    refine g_iload_n (np := 38) B.1 dX12_baleAt_37 rfl rfl ?_
    refine gc_Y_138 (np := 41) B 0 (by decide : (0 : Nat) < 112) (oX7_get B.1.tr 0 (by decide : (0 : Nat) < 112) a1  _ _ _ h) (Nat.le_of_ble_eq_true rfl) (Nat.le_of_ble_eq_true rfl) (Nat.le_of_ble_eq_true rfl) (Nat.le_of_ble_eq_true rfl) (Nat.le_of_ble_eq_true rfl) dX12_baleAt_38 rfl (fun r3 s4 h => ?_)
    exact g_iret B (ty := .int) rfl rfl (Nat.le_of_ble_eq_true rfl) (Nat.le_of_ble_eq_true rfl) dX12_baleAt_41 ⟨_, rfl, h⟩
  · replace h := h.2 q
    exact g_throwN B (text := "there is no bale at this position") b_662 b_51 (by decide +kernel) dX12_baleAt_17 dX12_baleAt_20 dX12_baleAt_21 dX12_baleAt_23 dX12_baleAt_26 (Nat.le_of_ble_eq_true rfl) (Nat.le_of_ble_eq_true rfl) (Nat.le_of_ble_eq_true rfl) (Nat.le_of_ble_eq_true rfl) h
def wX12_weight  (a1 : Int32) (s0 : Mem) (Q : Int32 → Mem → Prop) (E : String → Mem → Prop) : Prop := wX12_positionOfBale  a1 s0 (fun (r1 : Int32) (s2 : Mem) => wX7_get 1 r1 s2 (fun (r3 : Int32) (s4 : Mem) => Q r3 s4) E) E
set_option maxRecDepth 20000 in
set_option maxHeartbeats 4000000 in
theorem oX12_weight {l : Launch} {x : Ctx} (hl : l.stackTraces = false)   (a1 : Int32)  (s0 : Mem) (Q : Int32 → Mem → Prop) (E : String → Mem → Prop) (h : wX12_weight  a1 s0 Q E) : MetG l x yX12_weight cX12_weight 2 (some .int) 7 104 1 6 [.ref (xad x 14 0), .int a1] s0 (RI Q) E := by
  refine MetG.of hl (by decide) (Nat.le_of_ble_eq_true rfl) [some (.ref (xad x 14 0)), some (.int a1)] rfl (fun K B hx _ => ?_)
  subst hx
  unfold wX12_weight at h
  refine g_aload_n (np := 1) B.1 dX12_weight_0 rfl rfl ?_
  refine gf_Y_10_14 (np := 4) B.1 dX12_weight_1 rfl ?_
  refine gf_Y_114_4 (np := 7) B.1 0 (by decide : (0 : Nat) < 11) dX12_weight_4 rfl ?_
  refine gf_Y_142_2 (np := 10) B.1 0 (by decide : (0 : Nat) < 11) dX12_weight_7 rfl ?_
  refine g_aload_n (np := 11) B.1 dX12_weight_10 rfl rfl ?_
  refine g_iload_n (np := 12) B.1 dX12_weight_11 rfl rfl ?_
  refine gc_Y_145 (np := 15) B   (oX12_positionOfBale B.1.tr   a1  _ _ _ h) (Nat.le_of_ble_eq_true rfl) (Nat.le_of_ble_eq_true rfl) (Nat.le_of_ble_eq_true rfl) (Nat.le_of_ble_eq_true rfl) (Nat.le_of_ble_eq_true rfl) dX12_weight_12 rfl (fun r1 s2 h => ?_)
  refine gc_Y_138 (np := 18) B 1 (by decide : (1 : Nat) < 112) (oX7_get B.1.tr 1 (by decide : (1 : Nat) < 112) r1  _ _ _ h) (Nat.le_of_ble_eq_true rfl) (Nat.le_of_ble_eq_true rfl) (Nat.le_of_ble_eq_true rfl) (Nat.le_of_ble_eq_true rfl) (Nat.le_of_ble_eq_true rfl) dX12_weight_15 rfl (fun r3 s4 h => ?_)
  exact g_iret B (ty := .int) rfl rfl (Nat.le_of_ble_eq_true rfl) (Nat.le_of_ble_eq_true rfl) dX12_weight_18 ⟨_, rfl, h⟩
def wX12_staple  (a1 : Int32) (s0 : Mem) (Q : Int32 → Mem → Prop) (E : String → Mem → Prop) : Prop := wX12_positionOfBale  a1 s0 (fun (r1 : Int32) (s2 : Mem) => wX7_get 2 r1 s2 (fun (r3 : Int32) (s4 : Mem) => Q r3 s4) E) E
set_option maxRecDepth 20000 in
set_option maxHeartbeats 4000000 in
theorem oX12_staple {l : Launch} {x : Ctx} (hl : l.stackTraces = false)   (a1 : Int32)  (s0 : Mem) (Q : Int32 → Mem → Prop) (E : String → Mem → Prop) (h : wX12_staple  a1 s0 Q E) : MetG l x yX12_staple cX12_staple 2 (some .int) 7 104 1 6 [.ref (xad x 14 0), .int a1] s0 (RI Q) E := by
  refine MetG.of hl (by decide) (Nat.le_of_ble_eq_true rfl) [some (.ref (xad x 14 0)), some (.int a1)] rfl (fun K B hx _ => ?_)
  subst hx
  unfold wX12_staple at h
  refine g_aload_n (np := 1) B.1 dX12_staple_0 rfl rfl ?_
  refine gf_Y_10_14 (np := 4) B.1 dX12_staple_1 rfl ?_
  refine gf_Y_114_4 (np := 7) B.1 0 (by decide : (0 : Nat) < 11) dX12_staple_4 rfl ?_
  refine gf_Y_148_2 (np := 10) B.1 0 (by decide : (0 : Nat) < 11) dX12_staple_7 rfl ?_
  refine g_aload_n (np := 11) B.1 dX12_staple_10 rfl rfl ?_
  refine g_iload_n (np := 12) B.1 dX12_staple_11 rfl rfl ?_
  refine gc_Y_145 (np := 15) B   (oX12_positionOfBale B.1.tr   a1  _ _ _ h) (Nat.le_of_ble_eq_true rfl) (Nat.le_of_ble_eq_true rfl) (Nat.le_of_ble_eq_true rfl) (Nat.le_of_ble_eq_true rfl) (Nat.le_of_ble_eq_true rfl) dX12_staple_12 rfl (fun r1 s2 h => ?_)
  refine gc_Y_138 (np := 18) B 2 (by decide : (2 : Nat) < 112) (oX7_get B.1.tr 2 (by decide : (2 : Nat) < 112) r1  _ _ _ h) (Nat.le_of_ble_eq_true rfl) (Nat.le_of_ble_eq_true rfl) (Nat.le_of_ble_eq_true rfl) (Nat.le_of_ble_eq_true rfl) (Nat.le_of_ble_eq_true rfl) dX12_staple_15 rfl (fun r3 s4 h => ?_)
  exact g_iret B (ty := .int) rfl rfl (Nat.le_of_ble_eq_true rfl) (Nat.le_of_ble_eq_true rfl) dX12_staple_18 ⟨_, rfl, h⟩
def wX12_price  (a1 : Int32) (s0 : Mem) (Q : Int32 → Mem → Prop) (E : String → Mem → Prop) : Prop := wX12_positionOfBale  a1 s0 (fun (r1 : Int32) (s2 : Mem) => wX7_get 3 r1 s2 (fun (r3 : Int32) (s4 : Mem) => Q r3 s4) E) E
set_option maxRecDepth 20000 in
set_option maxHeartbeats 4000000 in
theorem oX12_price {l : Launch} {x : Ctx} (hl : l.stackTraces = false)   (a1 : Int32)  (s0 : Mem) (Q : Int32 → Mem → Prop) (E : String → Mem → Prop) (h : wX12_price  a1 s0 Q E) : MetG l x yX12_price cX12_price 2 (some .int) 7 104 1 6 [.ref (xad x 14 0), .int a1] s0 (RI Q) E := by
  refine MetG.of hl (by decide) (Nat.le_of_ble_eq_true rfl) [some (.ref (xad x 14 0)), some (.int a1)] rfl (fun K B hx _ => ?_)
  subst hx
  unfold wX12_price at h
  refine g_aload_n (np := 1) B.1 dX12_price_0 rfl rfl ?_
  refine gf_Y_10_14 (np := 4) B.1 dX12_price_1 rfl ?_
  refine gf_Y_114_4 (np := 7) B.1 0 (by decide : (0 : Nat) < 11) dX12_price_4 rfl ?_
  refine gf_Y_151_2 (np := 10) B.1 0 (by decide : (0 : Nat) < 11) dX12_price_7 rfl ?_
  refine g_aload_n (np := 11) B.1 dX12_price_10 rfl rfl ?_
  refine g_iload_n (np := 12) B.1 dX12_price_11 rfl rfl ?_
  refine gc_Y_145 (np := 15) B   (oX12_positionOfBale B.1.tr   a1  _ _ _ h) (Nat.le_of_ble_eq_true rfl) (Nat.le_of_ble_eq_true rfl) (Nat.le_of_ble_eq_true rfl) (Nat.le_of_ble_eq_true rfl) (Nat.le_of_ble_eq_true rfl) dX12_price_12 rfl (fun r1 s2 h => ?_)
  refine gc_Y_138 (np := 18) B 3 (by decide : (3 : Nat) < 112) (oX7_get B.1.tr 3 (by decide : (3 : Nat) < 112) r1  _ _ _ h) (Nat.le_of_ble_eq_true rfl) (Nat.le_of_ble_eq_true rfl) (Nat.le_of_ble_eq_true rfl) (Nat.le_of_ble_eq_true rfl) (Nat.le_of_ble_eq_true rfl) dX12_price_15 rfl (fun r3 s4 h => ?_)
  exact g_iret B (ty := .int) rfl rfl (Nat.le_of_ble_eq_true rfl) (Nat.le_of_ble_eq_true rfl) dX12_price_18 ⟨_, rfl, h⟩
def wX12_blendValue  (a1 : Int32) (a2 : Int32) (s0 : Mem) (Q : Int32 → Mem → Prop) (E : String → Mem → Prop) : Prop := wX12_testBlend  a1 a2 s0 (fun (s2 : Mem) => wX2_valueByAllSets  a1 a2 s2 (fun (r3 : Int32) (s4 : Mem) => wX12_blendValueFound  r3 s4 (fun (r5 : Int32) (s6 : Mem) => Q r5 s6) E) E) E
set_option maxRecDepth 20000 in
set_option maxHeartbeats 4000000 in
theorem oX12_blendValue {l : Launch} {x : Ctx} (hl : l.stackTraces = false)   (a1 : Int32) (a2 : Int32)  (s0 : Mem) (Q : Int32 → Mem → Prop) (E : String → Mem → Prop) (h : wX12_blendValue  a1 a2 s0 Q E) : MetG l x yX12_blendValue cX12_blendValue 3 (some .int) 7 103 2 12 [.ref (xad x 14 0), .int a1, .int a2] s0 (RI Q) E := by
  refine MetG.of hl (by decide) (Nat.le_of_ble_eq_true rfl) [some (.ref (xad x 14 0)), some (.int a1), some (.int a2)] rfl (fun K B hx _ => ?_)
  subst hx
  unfold wX12_blendValue at h
  refine g_iload_n (np := 1) B.1 dX12_blendValue_0 rfl rfl ?_
  refine g_iload_n (np := 2) B.1 dX12_blendValue_1 rfl rfl ?_
  refine gc_Y_162 (np := 5) B   (oX12_testBlend B.1.tr   a1 a2  _ _ _ h) (Nat.le_of_ble_eq_true rfl) (Nat.le_of_ble_eq_true rfl) (Nat.le_of_ble_eq_true rfl) (Nat.le_of_ble_eq_true rfl) (Nat.le_of_ble_eq_true rfl) dX12_blendValue_2 rfl (fun s2 h => ?_)
  refine g_aload_n (np := 6) B.1 dX12_blendValue_5 rfl rfl ?_
  refine gf_Y_32_14 (np := 9) B.1 dX12_blendValue_6 rfl ?_
  refine g_aload_n (np := 10) B.1 dX12_blendValue_9 rfl rfl ?_
  refine gf_Y_10_14 (np := 13) B.1 dX12_blendValue_10 rfl ?_
  refine gf_Y_114_4 (np := 16) B.1 0 (by decide : (0 : Nat) < 11) dX12_blendValue_13 rfl ?_
  refine g_iload_n (np := 17) B.1 dX12_blendValue_16 rfl rfl ?_
  refine g_iload_n (np := 18) B.1 dX12_blendValue_17 rfl rfl ?_
  refine gc_Y_166 (np := 21) B   (oX2_valueByAllSets B.1.tr   a1 a2  _ _ _ h) (Nat.le_of_ble_eq_true rfl) (Nat.le_of_ble_eq_true rfl) (Nat.le_of_ble_eq_true rfl) (Nat.le_of_ble_eq_true rfl) (Nat.le_of_ble_eq_true rfl) dX12_blendValue_18 rfl (fun r3 s4 h => ?_)
  refine gc_Y_170 (np := 24) B   (oX12_blendValueFound B.1.tr   r3  _ _ _ h) (Nat.le_of_ble_eq_true rfl) (Nat.le_of_ble_eq_true rfl) (Nat.le_of_ble_eq_true rfl) (Nat.le_of_ble_eq_true rfl) (Nat.le_of_ble_eq_true rfl) dX12_blendValue_21 rfl (fun r5 s6 h => ?_)
  exact g_iret B (ty := .int) rfl rfl (Nat.le_of_ble_eq_true rfl) (Nat.le_of_ble_eq_true rfl) dX12_blendValue_24 ⟨_, rfl, h⟩
def wX12_blendValueBySearch  (a1 : Int32) (a2 : Int32) (s0 : Mem) (Q : Int32 → Mem → Prop) (E : String → Mem → Prop) : Prop := wX12_testBlend  a1 a2 s0 (fun (s2 : Mem) => wX2_valueBySearch  a1 a2 s2 (fun (r3 : Int32) (s4 : Mem) => wX12_blendValueFound  r3 s4 (fun (r5 : Int32) (s6 : Mem) => Q r5 s6) E) E) E
set_option maxRecDepth 20000 in
set_option maxHeartbeats 4000000 in
theorem oX12_blendValueBySearch {l : Launch} {x : Ctx} (hl : l.stackTraces = false)   (a1 : Int32) (a2 : Int32)  (s0 : Mem) (Q : Int32 → Mem → Prop) (E : String → Mem → Prop) (h : wX12_blendValueBySearch  a1 a2 s0 Q E) : MetG l x yX12_blendValueBySearch cX12_blendValueBySearch 3 (some .int) 15 382 2 12 [.ref (xad x 14 0), .int a1, .int a2] s0 (RI Q) E := by
  refine MetG.of hl (by decide) (Nat.le_of_ble_eq_true rfl) [some (.ref (xad x 14 0)), some (.int a1), some (.int a2)] rfl (fun K B hx _ => ?_)
  subst hx
  unfold wX12_blendValueBySearch at h
  refine g_iload_n (np := 1) B.1 dX12_blendValueBySearch_0 rfl rfl ?_
  refine g_iload_n (np := 2) B.1 dX12_blendValueBySearch_1 rfl rfl ?_
  refine gc_Y_162 (np := 5) B   (oX12_testBlend B.1.tr   a1 a2  _ _ _ h) (Nat.le_of_ble_eq_true rfl) (Nat.le_of_ble_eq_true rfl) (Nat.le_of_ble_eq_true rfl) (Nat.le_of_ble_eq_true rfl) (Nat.le_of_ble_eq_true rfl) dX12_blendValueBySearch_2 rfl (fun s2 h => ?_)
  refine g_aload_n (np := 6) B.1 dX12_blendValueBySearch_5 rfl rfl ?_
  refine gf_Y_32_14 (np := 9) B.1 dX12_blendValueBySearch_6 rfl ?_
  refine g_aload_n (np := 10) B.1 dX12_blendValueBySearch_9 rfl rfl ?_
  refine gf_Y_10_14 (np := 13) B.1 dX12_blendValueBySearch_10 rfl ?_
  refine gf_Y_114_4 (np := 16) B.1 0 (by decide : (0 : Nat) < 11) dX12_blendValueBySearch_13 rfl ?_
  refine g_iload_n (np := 17) B.1 dX12_blendValueBySearch_16 rfl rfl ?_
  refine g_iload_n (np := 18) B.1 dX12_blendValueBySearch_17 rfl rfl ?_
  refine gc_Y_173 (np := 21) B   (oX2_valueBySearch B.1.tr   a1 a2  _ _ _ h) (Nat.le_of_ble_eq_true rfl) (Nat.le_of_ble_eq_true rfl) (Nat.le_of_ble_eq_true rfl) (Nat.le_of_ble_eq_true rfl) (Nat.le_of_ble_eq_true rfl) dX12_blendValueBySearch_18 rfl (fun r3 s4 h => ?_)
  refine gc_Y_170 (np := 24) B   (oX12_blendValueFound B.1.tr   r3  _ _ _ h) (Nat.le_of_ble_eq_true rfl) (Nat.le_of_ble_eq_true rfl) (Nat.le_of_ble_eq_true rfl) (Nat.le_of_ble_eq_true rfl) (Nat.le_of_ble_eq_true rfl) dX12_blendValueBySearch_21 rfl (fun r5 s6 h => ?_)
  exact g_iret B (ty := .int) rfl rfl (Nat.le_of_ble_eq_true rfl) (Nat.le_of_ble_eq_true rfl) dX12_blendValueBySearch_24 ⟨_, rfl, h⟩
def wX12_isInBlend  (a1 : Int32) (a2 : Int32) (a3 : Int32) (s0 : Mem) (Q : Int32 → Mem → Prop) (E : String → Mem → Prop) : Prop := wX12_positionOfBale  a1 s0 (fun (r1 : Int32) (s2 : Mem) => wX12_testBlend  a2 a3 s2 (fun (s4 : Mem) => wX2_bestSet  a2 a3 s4 (fun (r5 : Int32) (s6 : Mem) => ((¬ r5 = 0 → ((r5 &&& (1 <<< (r1 &&& 31)) = 0 → Q 0 s6) ∧ (¬ r5 &&& (1 <<< (r1 &&& 31)) = 0 → Q 1 s6))) ∧ (r5 = 0 → E "java/lang/UnsupportedOperationException" s6))) E) E) E
set_option maxRecDepth 20000 in
set_option maxHeartbeats 4000000 in
theorem oX12_isInBlend {l : Launch} {x : Ctx} (hl : l.stackTraces = false)   (a1 : Int32) (a2 : Int32) (a3 : Int32)  (s0 : Mem) (Q : Int32 → Mem → Prop) (E : String → Mem → Prop) (h : wX12_isInBlend  a1 a2 a3 s0 Q E) : MetG l x yX12_isInBlend cX12_isInBlend 6 (some .boolean) 7 104 3 18 [.ref (xad x 14 0), .int a1, .int a2, .int a3] s0 (RI Q) E := by
  refine MetG.of hl (by decide) (Nat.le_of_ble_eq_true rfl) [some (.ref (xad x 14 0)), some (.int a1), some (.int a2), some (.int a3), none, none] rfl (fun K B hx _ => ?_)
  subst hx
  unfold wX12_isInBlend at h
  refine g_aload_n (np := 1) B.1 dX12_isInBlend_0 rfl rfl ?_
  refine g_iload_n (np := 2) B.1 dX12_isInBlend_1 rfl rfl ?_
  refine gc_Y_145 (np := 5) B   (oX12_positionOfBale B.1.tr   a1  _ _ _ h) (Nat.le_of_ble_eq_true rfl) (Nat.le_of_ble_eq_true rfl) (Nat.le_of_ble_eq_true rfl) (Nat.le_of_ble_eq_true rfl) (Nat.le_of_ble_eq_true rfl) dX12_isInBlend_2 rfl (fun r1 s2 h => ?_)
  refine g_istore (np := 7) (lv' := [some (.ref (xad (fX K) 14 0)), some (.int a1), some (.int a2), some (.int a3), some (.int r1), none]) B.1 dX12_isInBlend_5 (by decide) rfl rfl rfl ?_
  refine g_iload_n (np := 8) B.1 dX12_isInBlend_7 rfl rfl ?_
  refine g_iload_n (np := 9) B.1 dX12_isInBlend_8 rfl rfl ?_
  refine gc_Y_162 (np := 12) B   (oX12_testBlend B.1.tr   a2 a3  _ _ _ h) (Nat.le_of_ble_eq_true rfl) (Nat.le_of_ble_eq_true rfl) (Nat.le_of_ble_eq_true rfl) (Nat.le_of_ble_eq_true rfl) (Nat.le_of_ble_eq_true rfl) dX12_isInBlend_9 rfl (fun s4 h => ?_)
  refine g_aload_n (np := 13) B.1 dX12_isInBlend_12 rfl rfl ?_
  refine gf_Y_32_14 (np := 16) B.1 dX12_isInBlend_13 rfl ?_
  refine g_aload_n (np := 17) B.1 dX12_isInBlend_16 rfl rfl ?_
  refine gf_Y_10_14 (np := 20) B.1 dX12_isInBlend_17 rfl ?_
  refine gf_Y_114_4 (np := 23) B.1 0 (by decide : (0 : Nat) < 11) dX12_isInBlend_20 rfl ?_
  refine g_iload_n (np := 24) B.1 dX12_isInBlend_23 rfl rfl ?_
  refine g_iload_n (np := 25) B.1 dX12_isInBlend_24 rfl rfl ?_
  refine gc_Y_176 (np := 28) B   (oX2_bestSet B.1.tr   a2 a3  _ _ _ h) (Nat.le_of_ble_eq_true rfl) (Nat.le_of_ble_eq_true rfl) (Nat.le_of_ble_eq_true rfl) (Nat.le_of_ble_eq_true rfl) (Nat.le_of_ble_eq_true rfl) dX12_isInBlend_25 rfl (fun r5 s6 h => ?_)
  refine g_istore (np := 30) (lv' := [some (.ref (xad (fX K) 14 0)), some (.int a1), some (.int a2), some (.int a3), some (.int r1), some (.int r5)]) B.1 dX12_isInBlend_28 (by decide) rfl rfl rfl ?_
  refine g_iload (np := 32) B.1 dX12_isInBlend_30 rfl rfl ?_
  refine g_if_ne (np := 35) (tgt := 45) B.1 dX12_isInBlend_32 (by decide) rfl (fun q => ?_) (fun q => ?_)
  · replace h := h.1 q
    refine g_iload (np := 47) B.1 dX12_isInBlend_45 rfl rfl ?_
    refine g_iconst (np := 48) (v := 1) B.1 dX12_isInBlend_47 (by decide) rfl ?_
    refine g_iload (np := 50) B.1 dX12_isInBlend_48 rfl rfl ?_
    refine g_ishl (np := 51) B.1 dX12_isInBlend_50 rfl ?_
    refine g_iand (np := 52) B.1 dX12_isInBlend_51 rfl ?_
    refine g_if_eq (np := 55) (tgt := 59) B.1 dX12_isInBlend_52 (by decide) rfl (fun q => ?_) (fun q => ?_)
    · replace h := h.1 q
      refine g_iconst (np := 60) (v := 0) B.1 dX12_isInBlend_59 (by decide) rfl ?_
      exact g_iret B (ty := .boolean) rfl (by decide) (Nat.le_of_ble_eq_true rfl) (Nat.le_of_ble_eq_true rfl) dX12_isInBlend_60 ⟨_, rfl, h⟩
    · replace h := h.2 q
      refine g_iconst (np := 56) (v := 1) B.1 dX12_isInBlend_55 (by decide) rfl ?_
      refine g_goto (tgt := 60) B.1 dX12_isInBlend_56 (by decide) ?_
      exact g_iret B (ty := .boolean) rfl (by decide) (Nat.le_of_ble_eq_true rfl) (Nat.le_of_ble_eq_true rfl) dX12_isInBlend_60 ⟨_, rfl, h⟩
  · replace h := h.2 q
    exact g_throw B (text := "there is no such blend") rfl (by decide +kernel) (by decide +kernel) b_646 b_50 (by decide +kernel) at_183 at_183g dX12_isInBlend_35 dX12_isInBlend_38 dX12_isInBlend_39 dX12_isInBlend_41 dX12_isInBlend_44 (by decide) (Nat.le_of_ble_eq_true rfl) (Nat.le_of_ble_eq_true rfl) (Nat.le_of_ble_eq_true rfl) h
def wX12_orderCount   (s0 : Mem) (Q : Int32 → Mem → Prop) (E : String → Mem → Prop) : Prop := wX7_size 5  s0 (fun (r1 : Int32) (s2 : Mem) => Q r1 s2) E
set_option maxRecDepth 20000 in
set_option maxHeartbeats 4000000 in
theorem oX12_orderCount {l : Launch} {x : Ctx} (hl : l.stackTraces = false)     (s0 : Mem) (Q : Int32 → Mem → Prop) (E : String → Mem → Prop) (h : wX12_orderCount   s0 Q E) : MetG l x yX12_orderCount cX12_orderCount 1 (some .int) 1 20 0 0 [.ref (xad x 14 0)] s0 (RI Q) E := by
  refine MetG.of hl (by decide) (Nat.le_of_ble_eq_true rfl) [some (.ref (xad x 14 0))] rfl (fun K B hx _ => ?_)
  subst hx
  unfold wX12_orderCount at h
  refine g_aload_n (np := 1) B.1 dX12_orderCount_0 rfl rfl ?_
  refine gf_Y_10_14 (np := 4) B.1 dX12_orderCount_1 rfl ?_
  refine gf_Y_184_4 (np := 7) B.1 0 (by decide : (0 : Nat) < 11) dX12_orderCount_4 rfl ?_
  refine gf_Y_188_3 (np := 10) B.1 0 (by decide : (0 : Nat) < 11) dX12_orderCount_7 rfl ?_
  refine gc_Y_123 (np := 13) B 5 (by decide : (5 : Nat) < 112) (oX7_size B.1.tr 5 (by decide : (5 : Nat) < 112)   _ _ _ h) (Nat.le_of_ble_eq_true rfl) (Nat.le_of_ble_eq_true rfl) (Nat.le_of_ble_eq_true rfl) (Nat.le_of_ble_eq_true rfl) (Nat.le_of_ble_eq_true rfl) dX12_orderCount_10 rfl (fun r1 s2 h => ?_)
  exact g_iret B (ty := .int) rfl rfl (Nat.le_of_ble_eq_true rfl) (Nat.le_of_ble_eq_true rfl) dX12_orderCount_13 ⟨_, rfl, h⟩
def wX12_orderAt  (a1 : Int32) (s0 : Mem) (Q : Int32 → Mem → Prop) (E : String → Mem → Prop) : Prop := wX7_has 5 a1 s0 (fun (r1 : Int32) (s2 : Mem) => ((¬ r1 = 0 → wX7_get 5 a1 s2 (fun (r3 : Int32) (s4 : Mem) => Q r3 s4) E) ∧ (r1 = 0 → E "java/util/NoSuchElementException" s2))) E
set_option maxRecDepth 20000 in
set_option maxHeartbeats 4000000 in
theorem oX12_orderAt {l : Launch} {x : Ctx} (hl : l.stackTraces = false)   (a1 : Int32)  (s0 : Mem) (Q : Int32 → Mem → Prop) (E : String → Mem → Prop) (h : wX12_orderAt  a1 s0 Q E) : MetG l x yX12_orderAt cX12_orderAt 2 (some .int) 6 82 1 6 [.ref (xad x 14 0), .int a1] s0 (RI Q) E := by
  refine MetG.of hl (by decide) (Nat.le_of_ble_eq_true rfl) [some (.ref (xad x 14 0)), some (.int a1)] rfl (fun K B hx _ => ?_)
  subst hx
  unfold wX12_orderAt at h
  refine g_aload_n (np := 1) B.1 dX12_orderAt_0 rfl rfl ?_
  refine gf_Y_10_14 (np := 4) B.1 dX12_orderAt_1 rfl ?_
  refine gf_Y_184_4 (np := 7) B.1 0 (by decide : (0 : Nat) < 11) dX12_orderAt_4 rfl ?_
  refine gf_Y_188_3 (np := 10) B.1 0 (by decide : (0 : Nat) < 11) dX12_orderAt_7 rfl ?_
  refine g_iload_n (np := 11) B.1 dX12_orderAt_10 rfl rfl ?_
  refine gc_Y_127 (np := 14) B 5 (by decide : (5 : Nat) < 112) (oX7_has B.1.tr 5 (by decide : (5 : Nat) < 112) a1  _ _ _ h) (Nat.le_of_ble_eq_true rfl) (Nat.le_of_ble_eq_true rfl) (Nat.le_of_ble_eq_true rfl) (Nat.le_of_ble_eq_true rfl) (Nat.le_of_ble_eq_true rfl) dX12_orderAt_11 rfl (fun r1 s2 h => ?_)
  refine g_if_ne (np := 17) (tgt := 27) B.1 dX12_orderAt_14 (by decide) rfl (fun q => ?_) (fun q => ?_)
  · replace h := h.1 q
    refine g_aload_n (np := 28) B.1 dX12_orderAt_27 rfl rfl ?_
    refine gf_Y_10_14 (np := 31) B.1 dX12_orderAt_28 rfl ?_
    refine gf_Y_184_4 (np := 34) B.1 0 (by decide : (0 : Nat) < 11) dX12_orderAt_31 rfl ?_
    refine gf_Y_188_3 (np := 37) B.1 0 (by decide : (0 : Nat) < 11) dX12_orderAt_34 rfl ?_
    refine g_iload_n (np := 38) B.1 dX12_orderAt_37 rfl rfl ?_
    refine gc_Y_138 (np := 41) B 5 (by decide : (5 : Nat) < 112) (oX7_get B.1.tr 5 (by decide : (5 : Nat) < 112) a1  _ _ _ h) (Nat.le_of_ble_eq_true rfl) (Nat.le_of_ble_eq_true rfl) (Nat.le_of_ble_eq_true rfl) (Nat.le_of_ble_eq_true rfl) (Nat.le_of_ble_eq_true rfl) dX12_orderAt_38 rfl (fun r3 s4 h => ?_)
    exact g_iret B (ty := .int) rfl rfl (Nat.le_of_ble_eq_true rfl) (Nat.le_of_ble_eq_true rfl) dX12_orderAt_41 ⟨_, rfl, h⟩
  · replace h := h.2 q
    exact g_throwN B (text := "there is no open order at this position") b_662 b_51 (by decide +kernel) dX12_orderAt_17 dX12_orderAt_20 dX12_orderAt_21 dX12_orderAt_23 dX12_orderAt_26 (Nat.le_of_ble_eq_true rfl) (Nat.le_of_ble_eq_true rfl) (Nat.le_of_ble_eq_true rfl) (Nat.le_of_ble_eq_true rfl) h
def wX12_lengthOf  (a1 : Int32) (s0 : Mem) (Q : Int32 → Mem → Prop) (E : String → Mem → Prop) : Prop := wX12_positionOfOrder  a1 s0 (fun (r1 : Int32) (s2 : Mem) => wX7_get 6 r1 s2 (fun (r3 : Int32) (s4 : Mem) => Q r3 s4) E) E
set_option maxRecDepth 20000 in
set_option maxHeartbeats 4000000 in
theorem oX12_lengthOf {l : Launch} {x : Ctx} (hl : l.stackTraces = false)   (a1 : Int32)  (s0 : Mem) (Q : Int32 → Mem → Prop) (E : String → Mem → Prop) (h : wX12_lengthOf  a1 s0 Q E) : MetG l x yX12_lengthOf cX12_lengthOf 2 (some .int) 7 104 1 6 [.ref (xad x 14 0), .int a1] s0 (RI Q) E := by
  refine MetG.of hl (by decide) (Nat.le_of_ble_eq_true rfl) [some (.ref (xad x 14 0)), some (.int a1)] rfl (fun K B hx _ => ?_)
  subst hx
  unfold wX12_lengthOf at h
  refine g_aload_n (np := 1) B.1 dX12_lengthOf_0 rfl rfl ?_
  refine gf_Y_10_14 (np := 4) B.1 dX12_lengthOf_1 rfl ?_
  refine gf_Y_184_4 (np := 7) B.1 0 (by decide : (0 : Nat) < 11) dX12_lengthOf_4 rfl ?_
  refine gf_Y_193_3 (np := 10) B.1 0 (by decide : (0 : Nat) < 11) dX12_lengthOf_7 rfl ?_
  refine g_aload_n (np := 11) B.1 dX12_lengthOf_10 rfl rfl ?_
  refine g_iload_n (np := 12) B.1 dX12_lengthOf_11 rfl rfl ?_
  refine gc_Y_196 (np := 15) B   (oX12_positionOfOrder B.1.tr   a1  _ _ _ h) (Nat.le_of_ble_eq_true rfl) (Nat.le_of_ble_eq_true rfl) (Nat.le_of_ble_eq_true rfl) (Nat.le_of_ble_eq_true rfl) (Nat.le_of_ble_eq_true rfl) dX12_lengthOf_12 rfl (fun r1 s2 h => ?_)
  refine gc_Y_138 (np := 18) B 6 (by decide : (6 : Nat) < 112) (oX7_get B.1.tr 6 (by decide : (6 : Nat) < 112) r1  _ _ _ h) (Nat.le_of_ble_eq_true rfl) (Nat.le_of_ble_eq_true rfl) (Nat.le_of_ble_eq_true rfl) (Nat.le_of_ble_eq_true rfl) (Nat.le_of_ble_eq_true rfl) dX12_lengthOf_15 rfl (fun r3 s4 h => ?_)
  exact g_iret B (ty := .int) rfl rfl (Nat.le_of_ble_eq_true rfl) (Nat.le_of_ble_eq_true rfl) dX12_lengthOf_18 ⟨_, rfl, h⟩
def wX12_twistOf  (a1 : Int32) (s0 : Mem) (Q : Int32 → Mem → Prop) (E : String → Mem → Prop) : Prop := wX12_positionOfOrder  a1 s0 (fun (r1 : Int32) (s2 : Mem) => wX7_get 7 r1 s2 (fun (r3 : Int32) (s4 : Mem) => Q r3 s4) E) E
set_option maxRecDepth 20000 in
set_option maxHeartbeats 4000000 in
theorem oX12_twistOf {l : Launch} {x : Ctx} (hl : l.stackTraces = false)   (a1 : Int32)  (s0 : Mem) (Q : Int32 → Mem → Prop) (E : String → Mem → Prop) (h : wX12_twistOf  a1 s0 Q E) : MetG l x yX12_twistOf cX12_twistOf 2 (some .int) 7 104 1 6 [.ref (xad x 14 0), .int a1] s0 (RI Q) E := by
  refine MetG.of hl (by decide) (Nat.le_of_ble_eq_true rfl) [some (.ref (xad x 14 0)), some (.int a1)] rfl (fun K B hx _ => ?_)
  subst hx
  unfold wX12_twistOf at h
  refine g_aload_n (np := 1) B.1 dX12_twistOf_0 rfl rfl ?_
  refine gf_Y_10_14 (np := 4) B.1 dX12_twistOf_1 rfl ?_
  refine gf_Y_184_4 (np := 7) B.1 0 (by decide : (0 : Nat) < 11) dX12_twistOf_4 rfl ?_
  refine gf_Y_199_3 (np := 10) B.1 0 (by decide : (0 : Nat) < 11) dX12_twistOf_7 rfl ?_
  refine g_aload_n (np := 11) B.1 dX12_twistOf_10 rfl rfl ?_
  refine g_iload_n (np := 12) B.1 dX12_twistOf_11 rfl rfl ?_
  refine gc_Y_196 (np := 15) B   (oX12_positionOfOrder B.1.tr   a1  _ _ _ h) (Nat.le_of_ble_eq_true rfl) (Nat.le_of_ble_eq_true rfl) (Nat.le_of_ble_eq_true rfl) (Nat.le_of_ble_eq_true rfl) (Nat.le_of_ble_eq_true rfl) dX12_twistOf_12 rfl (fun r1 s2 h => ?_)
  refine gc_Y_138 (np := 18) B 7 (by decide : (7 : Nat) < 112) (oX7_get B.1.tr 7 (by decide : (7 : Nat) < 112) r1  _ _ _ h) (Nat.le_of_ble_eq_true rfl) (Nat.le_of_ble_eq_true rfl) (Nat.le_of_ble_eq_true rfl) (Nat.le_of_ble_eq_true rfl) (Nat.le_of_ble_eq_true rfl) dX12_twistOf_15 rfl (fun r3 s4 h => ?_)
  exact g_iret B (ty := .int) rfl rfl (Nat.le_of_ble_eq_true rfl) (Nat.le_of_ble_eq_true rfl) dX12_twistOf_18 ⟨_, rfl, h⟩
def wX12_minutesOf  (a1 : Int32) (s0 : Mem) (Q : Int32 → Mem → Prop) (E : String → Mem → Prop) : Prop := wX12_positionOfOrder  a1 s0 (fun (r1 : Int32) (s2 : Mem) => wX7_get 8 r1 s2 (fun (r3 : Int32) (s4 : Mem) => Q r3 s4) E) E
set_option maxRecDepth 20000 in
set_option maxHeartbeats 4000000 in
theorem oX12_minutesOf {l : Launch} {x : Ctx} (hl : l.stackTraces = false)   (a1 : Int32)  (s0 : Mem) (Q : Int32 → Mem → Prop) (E : String → Mem → Prop) (h : wX12_minutesOf  a1 s0 Q E) : MetG l x yX12_minutesOf cX12_minutesOf 2 (some .int) 7 104 1 6 [.ref (xad x 14 0), .int a1] s0 (RI Q) E := by
  refine MetG.of hl (by decide) (Nat.le_of_ble_eq_true rfl) [some (.ref (xad x 14 0)), some (.int a1)] rfl (fun K B hx _ => ?_)
  subst hx
  unfold wX12_minutesOf at h
  refine g_aload_n (np := 1) B.1 dX12_minutesOf_0 rfl rfl ?_
  refine gf_Y_10_14 (np := 4) B.1 dX12_minutesOf_1 rfl ?_
  refine gf_Y_184_4 (np := 7) B.1 0 (by decide : (0 : Nat) < 11) dX12_minutesOf_4 rfl ?_
  refine gf_Y_202_3 (np := 10) B.1 0 (by decide : (0 : Nat) < 11) dX12_minutesOf_7 rfl ?_
  refine g_aload_n (np := 11) B.1 dX12_minutesOf_10 rfl rfl ?_
  refine g_iload_n (np := 12) B.1 dX12_minutesOf_11 rfl rfl ?_
  refine gc_Y_196 (np := 15) B   (oX12_positionOfOrder B.1.tr   a1  _ _ _ h) (Nat.le_of_ble_eq_true rfl) (Nat.le_of_ble_eq_true rfl) (Nat.le_of_ble_eq_true rfl) (Nat.le_of_ble_eq_true rfl) (Nat.le_of_ble_eq_true rfl) dX12_minutesOf_12 rfl (fun r1 s2 h => ?_)
  refine gc_Y_138 (np := 18) B 8 (by decide : (8 : Nat) < 112) (oX7_get B.1.tr 8 (by decide : (8 : Nat) < 112) r1  _ _ _ h) (Nat.le_of_ble_eq_true rfl) (Nat.le_of_ble_eq_true rfl) (Nat.le_of_ble_eq_true rfl) (Nat.le_of_ble_eq_true rfl) (Nat.le_of_ble_eq_true rfl) dX12_minutesOf_15 rfl (fun r3 s4 h => ?_)
  exact g_iret B (ty := .int) rfl rfl (Nat.le_of_ble_eq_true rfl) (Nat.le_of_ble_eq_true rfl) dX12_minutesOf_18 ⟨_, rfl, h⟩
def wX12_canSpin  (a1 : Int32) (s0 : Mem) (Q : Int32 → Mem → Prop) (E : String → Mem → Prop) : Prop := wX12_positionOfOrder  a1 s0 (fun (r1 : Int32) (s2 : Mem) => wX10_refusalOfSpinning 0 r1 s2 (fun (r3 : Nat) (s4 : Mem) => ((¬ r3 = 0 → Q 0 s4) ∧ (r3 = 0 → Q 1 s4))) E) E
set_option maxRecDepth 20000 in
set_option maxHeartbeats 4000000 in
theorem oX12_canSpin {l : Launch} {x : Ctx} (hl : l.stackTraces = false)   (a1 : Int32)  (s0 : Mem) (Q : Int32 → Mem → Prop) (E : String → Mem → Prop) (h : wX12_canSpin  a1 s0 Q E) : MetG l x yX12_canSpin cX12_canSpin 2 (some .boolean) 7 104 1 6 [.ref (xad x 14 0), .int a1] s0 (RI Q) E := by
  refine MetG.of hl (by decide) (Nat.le_of_ble_eq_true rfl) [some (.ref (xad x 14 0)), some (.int a1)] rfl (fun K B hx _ => ?_)
  subst hx
  unfold wX12_canSpin at h
  refine g_aload_n (np := 1) B.1 dX12_canSpin_0 rfl rfl ?_
  refine gf_Y_10_14 (np := 4) B.1 dX12_canSpin_1 rfl ?_
  refine g_aload_n (np := 5) B.1 dX12_canSpin_4 rfl rfl ?_
  refine g_iload_n (np := 6) B.1 dX12_canSpin_5 rfl rfl ?_
  refine gc_Y_196 (np := 9) B   (oX12_positionOfOrder B.1.tr   a1  _ _ _ h) (Nat.le_of_ble_eq_true rfl) (Nat.le_of_ble_eq_true rfl) (Nat.le_of_ble_eq_true rfl) (Nat.le_of_ble_eq_true rfl) (Nat.le_of_ble_eq_true rfl) dX12_canSpin_6 rfl (fun r1 s2 h => ?_)
  refine gc_Y_205 (np := 12) B 0 (by decide : (0 : Nat) < 11) (oX10_refusalOfSpinning B.1.tr 0 (by decide : (0 : Nat) < 11) r1  _ _ _ h) (Nat.le_of_ble_eq_true rfl) (Nat.le_of_ble_eq_true rfl) (Nat.le_of_ble_eq_true rfl) (Nat.le_of_ble_eq_true rfl) (Nat.le_of_ble_eq_true rfl) dX12_canSpin_9 rfl (fun r3 hr3 s4 h => ?_)
  refine g_getRef (np := 15) B.1 0 (by decide) b_581 dX12_canSpin_12 rfl ?_
  refine g_acmpE_ne (np := 18) (tgt := 22) B.1 hr3 (by decide) dX12_canSpin_15 (by decide) rfl (fun q => ?_) (fun q => ?_)
  · replace h := h.1 q
    refine g_iconst (np := 23) (v := 0) B.1 dX12_canSpin_22 (by decide) rfl ?_
    exact g_iret B (ty := .boolean) rfl (by decide) (Nat.le_of_ble_eq_true rfl) (Nat.le_of_ble_eq_true rfl) dX12_canSpin_23 ⟨_, rfl, h⟩
  · replace h := h.2 q
    refine g_iconst (np := 19) (v := 1) B.1 dX12_canSpin_18 (by decide) rfl ?_
    refine g_goto (tgt := 23) B.1 dX12_canSpin_19 (by decide) ?_
    exact g_iret B (ty := .boolean) rfl (by decide) (Nat.le_of_ble_eq_true rfl) (Nat.le_of_ble_eq_true rfl) dX12_canSpin_23 ⟨_, rfl, h⟩
def wX12_kinds   (s0 : Mem) (Q : Int32 → Mem → Prop) (E : String → Mem → Prop) : Prop := wX5_countKinds 0  s0 (fun (r1 : Int32) (s2 : Mem) => Q r1 s2) E
set_option maxRecDepth 20000 in
set_option maxHeartbeats 4000000 in
theorem oX12_kinds {l : Launch} {x : Ctx} (hl : l.stackTraces = false)     (s0 : Mem) (Q : Int32 → Mem → Prop) (E : String → Mem → Prop) (h : wX12_kinds   s0 Q E) : MetG l x yX12_kinds cX12_kinds 1 (some .int) 3 65 0 0 [.ref (xad x 14 0)] s0 (RI Q) E := by
  refine MetG.of hl (by decide) (Nat.le_of_ble_eq_true rfl) [some (.ref (xad x 14 0))] rfl (fun K B hx _ => ?_)
  subst hx
  unfold wX12_kinds at h
  refine g_aload_n (np := 1) B.1 dX12_kinds_0 rfl rfl ?_
  refine gf_Y_10_14 (np := 4) B.1 dX12_kinds_1 rfl ?_
  refine gf_Y_184_4 (np := 7) B.1 0 (by decide : (0 : Nat) < 11) dX12_kinds_4 rfl ?_
  refine gc_Y_215 (np := 10) B 0 (by decide : (0 : Nat) < 11) (oX5_countKinds B.1.tr 0 (by decide : (0 : Nat) < 11)   _ _ _ h) (Nat.le_of_ble_eq_true rfl) (Nat.le_of_ble_eq_true rfl) (Nat.le_of_ble_eq_true rfl) (Nat.le_of_ble_eq_true rfl) (Nat.le_of_ble_eq_true rfl) dX12_kinds_7 rfl (fun r1 s2 h => ?_)
  exact g_iret B (ty := .int) rfl rfl (Nat.le_of_ble_eq_true rfl) (Nat.le_of_ble_eq_true rfl) dX12_kinds_10 ⟨_, rfl, h⟩
def wX12_orderByTime  (a1 : Int32) (s0 : Mem) (Q : Int32 → Mem → Prop) (E : String → Mem → Prop) : Prop := wX5_putKeys 0  s0 (fun (s2 : Mem) => wX12_positionAtRank 110 a1 s2 (fun (r3 : Int32) (s4 : Mem) => wX7_get 5 r3 s4 (fun (r5 : Int32) (s6 : Mem) => Q r5 s6) E) E) E
set_option maxRecDepth 20000 in
set_option maxHeartbeats 4000000 in
theorem oX12_orderByTime {l : Launch} {x : Ctx} (hl : l.stackTraces = false)   (a1 : Int32)  (s0 : Mem) (Q : Int32 → Mem → Prop) (E : String → Mem → Prop) (h : wX12_orderByTime  a1 s0 Q E) : MetG l x yX12_orderByTime cX12_orderByTime 2 (some .int) 7 104 1 6 [.ref (xad x 14 0), .int a1] s0 (RI Q) E := by
  refine MetG.of hl (by decide) (Nat.le_of_ble_eq_true rfl) [some (.ref (xad x 14 0)), some (.int a1)] rfl (fun K B hx _ => ?_)
  subst hx
  unfold wX12_orderByTime at h
  refine g_aload_n (np := 1) B.1 dX12_orderByTime_0 rfl rfl ?_
  refine gf_Y_10_14 (np := 4) B.1 dX12_orderByTime_1 rfl ?_
  refine gf_Y_184_4 (np := 7) B.1 0 (by decide : (0 : Nat) < 11) dX12_orderByTime_4 rfl ?_
  refine g_aload_n (np := 8) B.1 dX12_orderByTime_7 rfl rfl ?_
  refine gf_Y_55_14 (np := 11) B.1 dX12_orderByTime_8 rfl ?_
  refine gc_Y_218 (np := 14) B 0 (by decide : (0 : Nat) < 11) (oX5_putKeys B.1.tr 0 (by decide : (0 : Nat) < 11)   _ _ _ h) (Nat.le_of_ble_eq_true rfl) (Nat.le_of_ble_eq_true rfl) (Nat.le_of_ble_eq_true rfl) (Nat.le_of_ble_eq_true rfl) (Nat.le_of_ble_eq_true rfl) dX12_orderByTime_11 rfl (fun s2 h => ?_)
  refine g_aload_n (np := 15) B.1 dX12_orderByTime_14 rfl rfl ?_
  refine gf_Y_10_14 (np := 18) B.1 dX12_orderByTime_15 rfl ?_
  refine gf_Y_184_4 (np := 21) B.1 0 (by decide : (0 : Nat) < 11) dX12_orderByTime_18 rfl ?_
  refine gf_Y_188_3 (np := 24) B.1 0 (by decide : (0 : Nat) < 11) dX12_orderByTime_21 rfl ?_
  refine g_aload_n (np := 25) B.1 dX12_orderByTime_24 rfl rfl ?_
  refine gf_Y_55_14 (np := 28) B.1 dX12_orderByTime_25 rfl ?_
  refine g_iload_n (np := 29) B.1 dX12_orderByTime_28 rfl rfl ?_
  refine gc_Y_158 (np := 32) B 110 (by decide : (110 : Nat) < 112) (oX12_positionAtRank B.1.tr 110 (by decide : (110 : Nat) < 112) a1  _ _ _ h) (Nat.le_of_ble_eq_true rfl) (Nat.le_of_ble_eq_true rfl) (Nat.le_of_ble_eq_true rfl) (Nat.le_of_ble_eq_true rfl) (Nat.le_of_ble_eq_true rfl) dX12_orderByTime_29 rfl (fun r3 s4 h => ?_)
  refine gc_Y_138 (np := 35) B 5 (by decide : (5 : Nat) < 112) (oX7_get B.1.tr 5 (by decide : (5 : Nat) < 112) r3  _ _ _ h) (Nat.le_of_ble_eq_true rfl) (Nat.le_of_ble_eq_true rfl) (Nat.le_of_ble_eq_true rfl) (Nat.le_of_ble_eq_true rfl) (Nat.le_of_ble_eq_true rfl) dX12_orderByTime_32 rfl (fun r5 s6 h => ?_)
  exact g_iret B (ty := .int) rfl rfl (Nat.le_of_ble_eq_true rfl) (Nat.le_of_ble_eq_true rfl) dX12_orderByTime_35 ⟨_, rfl, h⟩
def wX12_shortestTime   (s0 : Mem) (Q : Int32 → Mem → Prop) (E : String → Mem → Prop) : Prop := wX11_shortestBySets  (rd s0 4 0 4) s0 (fun (r1 : Int32) (s2 : Mem) => Q r1 s2) E
set_option maxRecDepth 20000 in
set_option maxHeartbeats 4000000 in
theorem oX12_shortestTime {l : Launch} {x : Ctx} (hl : l.stackTraces = false)     (s0 : Mem) (Q : Int32 → Mem → Prop) (E : String → Mem → Prop) (h : wX12_shortestTime   s0 Q E) : MetG l x yX12_shortestTime cX12_shortestTime 1 (some .int) 3 71 0 0 [.ref (xad x 14 0)] s0 (RI Q) E := by
  refine MetG.of hl (by decide) (Nat.le_of_ble_eq_true rfl) [some (.ref (xad x 14 0))] rfl (fun K B hx _ => ?_)
  subst hx
  unfold wX12_shortestTime at h
  refine g_aload_n (np := 1) B.1 dX12_shortestTime_0 rfl rfl ?_
  refine gf_Y_39_14 (np := 4) B.1 dX12_shortestTime_1 rfl ?_
  refine g_aload_n (np := 5) B.1 dX12_shortestTime_4 rfl rfl ?_
  refine gf_Y_10_14 (np := 8) B.1 dX12_shortestTime_5 rfl ?_
  refine gf_Y_184_4 (np := 11) B.1 0 (by decide : (0 : Nat) < 11) dX12_shortestTime_8 rfl ?_
  refine g_aload_n (np := 12) B.1 dX12_shortestTime_11 rfl rfl ?_
  refine gf_Y_10_14 (np := 15) B.1 dX12_shortestTime_12 rfl ?_
  refine gf_Y_219_4 (np := 18) B.1 0 (by decide : (0 : Nat) < 11) dX12_shortestTime_15 rfl ?_
  refine gc_Y_222 (np := 21) B   (oX11_shortestBySets B.1.tr   (rd s0 4 0 4)  _ _ _ h) (Nat.le_of_ble_eq_true rfl) (Nat.le_of_ble_eq_true rfl) (Nat.le_of_ble_eq_true rfl) (Nat.le_of_ble_eq_true rfl) (Nat.le_of_ble_eq_true rfl) dX12_shortestTime_18 rfl (fun r1 s2 h => ?_)
  exact g_iret B (ty := .int) rfl rfl (Nat.le_of_ble_eq_true rfl) (Nat.le_of_ble_eq_true rfl) dX12_shortestTime_21 ⟨_, rfl, h⟩
def wX12_shortestTimeBySearch   (s0 : Mem) (Q : Int32 → Mem → Prop) (E : String → Mem → Prop) : Prop := wX11_shortestBySearch  (rd s0 4 0 4) s0 (fun (r1 : Int32) (s2 : Mem) => Q r1 s2) E
set_option maxRecDepth 20000 in
set_option maxHeartbeats 4000000 in
theorem oX12_shortestTimeBySearch {l : Launch} {x : Ctx} (hl : l.stackTraces = false)     (s0 : Mem) (Q : Int32 → Mem → Prop) (E : String → Mem → Prop) (h : wX12_shortestTimeBySearch   s0 Q E) : MetG l x yX12_shortestTimeBySearch cX12_shortestTimeBySearch 1 (some .int) 13 331 0 0 [.ref (xad x 14 0)] s0 (RI Q) E := by
  refine MetG.of hl (by decide) (Nat.le_of_ble_eq_true rfl) [some (.ref (xad x 14 0))] rfl (fun K B hx _ => ?_)
  subst hx
  unfold wX12_shortestTimeBySearch at h
  refine g_aload_n (np := 1) B.1 dX12_shortestTimeBySearch_0 rfl rfl ?_
  refine gf_Y_39_14 (np := 4) B.1 dX12_shortestTimeBySearch_1 rfl ?_
  refine g_aload_n (np := 5) B.1 dX12_shortestTimeBySearch_4 rfl rfl ?_
  refine gf_Y_10_14 (np := 8) B.1 dX12_shortestTimeBySearch_5 rfl ?_
  refine gf_Y_184_4 (np := 11) B.1 0 (by decide : (0 : Nat) < 11) dX12_shortestTimeBySearch_8 rfl ?_
  refine g_aload_n (np := 12) B.1 dX12_shortestTimeBySearch_11 rfl rfl ?_
  refine gf_Y_10_14 (np := 15) B.1 dX12_shortestTimeBySearch_12 rfl ?_
  refine gf_Y_219_4 (np := 18) B.1 0 (by decide : (0 : Nat) < 11) dX12_shortestTimeBySearch_15 rfl ?_
  refine gc_Y_226 (np := 21) B   (oX11_shortestBySearch B.1.tr   (rd s0 4 0 4)  _ _ _ h) (Nat.le_of_ble_eq_true rfl) (Nat.le_of_ble_eq_true rfl) (Nat.le_of_ble_eq_true rfl) (Nat.le_of_ble_eq_true rfl) (Nat.le_of_ble_eq_true rfl) dX12_shortestTimeBySearch_18 rfl (fun r1 s2 h => ?_)
  exact g_iret B (ty := .int) rfl rfl (Nat.le_of_ble_eq_true rfl) (Nat.le_of_ble_eq_true rfl) dX12_shortestTimeBySearch_21 ⟨_, rfl, h⟩
def wX12_pieceCount   (s0 : Mem) (Q : Int32 → Mem → Prop) (E : String → Mem → Prop) : Prop := wX7_size 9  s0 (fun (r1 : Int32) (s2 : Mem) => Q r1 s2) E
set_option maxRecDepth 20000 in
set_option maxHeartbeats 4000000 in
theorem oX12_pieceCount {l : Launch} {x : Ctx} (hl : l.stackTraces = false)     (s0 : Mem) (Q : Int32 → Mem → Prop) (E : String → Mem → Prop) (h : wX12_pieceCount   s0 Q E) : MetG l x yX12_pieceCount cX12_pieceCount 1 (some .int) 1 20 0 0 [.ref (xad x 14 0)] s0 (RI Q) E := by
  refine MetG.of hl (by decide) (Nat.le_of_ble_eq_true rfl) [some (.ref (xad x 14 0))] rfl (fun K B hx _ => ?_)
  subst hx
  unfold wX12_pieceCount at h
  refine g_aload_n (np := 1) B.1 dX12_pieceCount_0 rfl rfl ?_
  refine gf_Y_10_14 (np := 4) B.1 dX12_pieceCount_1 rfl ?_
  refine gf_Y_229_4 (np := 7) B.1 0 (by decide : (0 : Nat) < 11) dX12_pieceCount_4 rfl ?_
  refine gc_Y_123 (np := 10) B 9 (by decide : (9 : Nat) < 112) (oX7_size B.1.tr 9 (by decide : (9 : Nat) < 112)   _ _ _ h) (Nat.le_of_ble_eq_true rfl) (Nat.le_of_ble_eq_true rfl) (Nat.le_of_ble_eq_true rfl) (Nat.le_of_ble_eq_true rfl) (Nat.le_of_ble_eq_true rfl) dX12_pieceCount_7 rfl (fun r1 s2 h => ?_)
  exact g_iret B (ty := .int) rfl rfl (Nat.le_of_ble_eq_true rfl) (Nat.le_of_ble_eq_true rfl) dX12_pieceCount_10 ⟨_, rfl, h⟩
def wX12_pieceLength  (a1 : Int32) (s0 : Mem) (Q : Int32 → Mem → Prop) (E : String → Mem → Prop) : Prop := wX12_testPiece  a1 s0 (fun (s2 : Mem) => wX7_get 9 a1 s2 (fun (r3 : Int32) (s4 : Mem) => Q r3 s4) E) E
set_option maxRecDepth 20000 in
set_option maxHeartbeats 4000000 in
theorem oX12_pieceLength {l : Launch} {x : Ctx} (hl : l.stackTraces = false)   (a1 : Int32)  (s0 : Mem) (Q : Int32 → Mem → Prop) (E : String → Mem → Prop) (h : wX12_pieceLength  a1 s0 Q E) : MetG l x yX12_pieceLength cX12_pieceLength 2 (some .int) 7 103 1 6 [.ref (xad x 14 0), .int a1] s0 (RI Q) E := by
  refine MetG.of hl (by decide) (Nat.le_of_ble_eq_true rfl) [some (.ref (xad x 14 0)), some (.int a1)] rfl (fun K B hx _ => ?_)
  subst hx
  unfold wX12_pieceLength at h
  refine g_aload_n (np := 1) B.1 dX12_pieceLength_0 rfl rfl ?_
  refine g_iload_n (np := 2) B.1 dX12_pieceLength_1 rfl rfl ?_
  refine gc_Y_232 (np := 5) B   (oX12_testPiece B.1.tr   a1  _ _ _ h) (Nat.le_of_ble_eq_true rfl) (Nat.le_of_ble_eq_true rfl) (Nat.le_of_ble_eq_true rfl) (Nat.le_of_ble_eq_true rfl) (Nat.le_of_ble_eq_true rfl) dX12_pieceLength_2 rfl (fun s2 h => ?_)
  refine g_aload_n (np := 6) B.1 dX12_pieceLength_5 rfl rfl ?_
  refine gf_Y_10_14 (np := 9) B.1 dX12_pieceLength_6 rfl ?_
  refine gf_Y_229_4 (np := 12) B.1 0 (by decide : (0 : Nat) < 11) dX12_pieceLength_9 rfl ?_
  refine g_iload_n (np := 13) B.1 dX12_pieceLength_12 rfl rfl ?_
  refine gc_Y_138 (np := 16) B 9 (by decide : (9 : Nat) < 112) (oX7_get B.1.tr 9 (by decide : (9 : Nat) < 112) a1  _ _ _ h) (Nat.le_of_ble_eq_true rfl) (Nat.le_of_ble_eq_true rfl) (Nat.le_of_ble_eq_true rfl) (Nat.le_of_ble_eq_true rfl) (Nat.le_of_ble_eq_true rfl) dX12_pieceLength_13 rfl (fun r3 s4 h => ?_)
  exact g_iret B (ty := .int) rfl rfl (Nat.le_of_ble_eq_true rfl) (Nat.le_of_ble_eq_true rfl) dX12_pieceLength_16 ⟨_, rfl, h⟩
def wX12_longestPiece   (s0 : Mem) (Q : Int32 → Mem → Prop) (E : String → Mem → Prop) : Prop := wX7_size 9  s0 (fun (r1 : Int32) (s2 : Mem) => ((¬ r1 = 0 → wX7_positionOfLargest 9  s2 (fun (r3 : Int32) (s4 : Mem) => Q r3 s4) E) ∧ (r1 = 0 → E "java/util/NoSuchElementException" s2))) E
set_option maxRecDepth 20000 in
set_option maxHeartbeats 4000000 in
theorem oX12_longestPiece {l : Launch} {x : Ctx} (hl : l.stackTraces = false)     (s0 : Mem) (Q : Int32 → Mem → Prop) (E : String → Mem → Prop) (h : wX12_longestPiece   s0 Q E) : MetG l x yX12_longestPiece cX12_longestPiece 1 (some .int) 6 82 1 6 [.ref (xad x 14 0)] s0 (RI Q) E := by
  refine MetG.of hl (by decide) (Nat.le_of_ble_eq_true rfl) [some (.ref (xad x 14 0))] rfl (fun K B hx _ => ?_)
  subst hx
  unfold wX12_longestPiece at h
  refine g_aload_n (np := 1) B.1 dX12_longestPiece_0 rfl rfl ?_
  refine gf_Y_10_14 (np := 4) B.1 dX12_longestPiece_1 rfl ?_
  refine gf_Y_229_4 (np := 7) B.1 0 (by decide : (0 : Nat) < 11) dX12_longestPiece_4 rfl ?_
  refine gc_Y_123 (np := 10) B 9 (by decide : (9 : Nat) < 112) (oX7_size B.1.tr 9 (by decide : (9 : Nat) < 112)   _ _ _ h) (Nat.le_of_ble_eq_true rfl) (Nat.le_of_ble_eq_true rfl) (Nat.le_of_ble_eq_true rfl) (Nat.le_of_ble_eq_true rfl) (Nat.le_of_ble_eq_true rfl) dX12_longestPiece_7 rfl (fun r1 s2 h => ?_)
  refine g_if_ne (np := 13) (tgt := 23) B.1 dX12_longestPiece_10 (by decide) rfl (fun q => ?_) (fun q => ?_)
  · replace h := h.1 q
    refine g_aload_n (np := 24) B.1 dX12_longestPiece_23 rfl rfl ?_
    refine gf_Y_10_14 (np := 27) B.1 dX12_longestPiece_24 rfl ?_
    refine gf_Y_229_4 (np := 30) B.1 0 (by decide : (0 : Nat) < 11) dX12_longestPiece_27 rfl ?_
    refine gc_Y_237 (np := 33) B 9 (by decide : (9 : Nat) < 112) (oX7_positionOfLargest B.1.tr 9 (by decide : (9 : Nat) < 112)   _ _ _ h) (Nat.le_of_ble_eq_true rfl) (Nat.le_of_ble_eq_true rfl) (Nat.le_of_ble_eq_true rfl) (Nat.le_of_ble_eq_true rfl) (Nat.le_of_ble_eq_true rfl) dX12_longestPiece_30 rfl (fun r3 s4 h => ?_)
    exact g_iret B (ty := .int) rfl rfl (Nat.le_of_ble_eq_true rfl) (Nat.le_of_ble_eq_true rfl) dX12_longestPiece_33 ⟨_, rfl, h⟩
  · replace h := h.2 q
    exact g_throwN B (text := "there are no pieces") b_662 b_51 (by decide +kernel) dX12_longestPiece_13 dX12_longestPiece_16 dX12_longestPiece_17 dX12_longestPiece_19 dX12_longestPiece_22 (Nat.le_of_ble_eq_true rfl) (Nat.le_of_ble_eq_true rfl) (Nat.le_of_ble_eq_true rfl) (Nat.le_of_ble_eq_true rfl) h
def wX12_pieceByLength  (a1 : Int32) (s0 : Mem) (Q : Int32 → Mem → Prop) (E : String → Mem → Prop) : Prop := wX12_positionAtRank 9 a1 s0 (fun (r1 : Int32) (s2 : Mem) => Q r1 s2) E
set_option maxRecDepth 20000 in
set_option maxHeartbeats 4000000 in
theorem oX12_pieceByLength {l : Launch} {x : Ctx} (hl : l.stackTraces = false)   (a1 : Int32)  (s0 : Mem) (Q : Int32 → Mem → Prop) (E : String → Mem → Prop) (h : wX12_pieceByLength  a1 s0 Q E) : MetG l x yX12_pieceByLength cX12_pieceByLength 2 (some .int) 7 104 1 6 [.ref (xad x 14 0), .int a1] s0 (RI Q) E := by
  refine MetG.of hl (by decide) (Nat.le_of_ble_eq_true rfl) [some (.ref (xad x 14 0)), some (.int a1)] rfl (fun K B hx _ => ?_)
  subst hx
  unfold wX12_pieceByLength at h
  refine g_aload_n (np := 1) B.1 dX12_pieceByLength_0 rfl rfl ?_
  refine gf_Y_10_14 (np := 4) B.1 dX12_pieceByLength_1 rfl ?_
  refine gf_Y_229_4 (np := 7) B.1 0 (by decide : (0 : Nat) < 11) dX12_pieceByLength_4 rfl ?_
  refine g_iload_n (np := 8) B.1 dX12_pieceByLength_7 rfl rfl ?_
  refine gc_Y_158 (np := 11) B 9 (by decide : (9 : Nat) < 112) (oX12_positionAtRank B.1.tr 9 (by decide : (9 : Nat) < 112) a1  _ _ _ h) (Nat.le_of_ble_eq_true rfl) (Nat.le_of_ble_eq_true rfl) (Nat.le_of_ble_eq_true rfl) (Nat.le_of_ble_eq_true rfl) (Nat.le_of_ble_eq_true rfl) dX12_pieceByLength_8 rfl (fun r1 s2 h => ?_)
  exact g_iret B (ty := .int) rfl rfl (Nat.le_of_ble_eq_true rfl) (Nat.le_of_ble_eq_true rfl) dX12_pieceByLength_11 ⟨_, rfl, h⟩
def wX12_worthOf  (a1 : Int32) (s0 : Mem) (Q : Int32 → Mem → Prop) (E : String → Mem → Prop) : Prop := wX12_testPiece  a1 s0 (fun (s2 : Mem) => wX10_worthAt 0 a1 s2 (fun (r3 : Int32) (s4 : Mem) => Q r3 s4) E) E
set_option maxRecDepth 20000 in
set_option maxHeartbeats 4000000 in
theorem oX12_worthOf {l : Launch} {x : Ctx} (hl : l.stackTraces = false)   (a1 : Int32)  (s0 : Mem) (Q : Int32 → Mem → Prop) (E : String → Mem → Prop) (h : wX12_worthOf  a1 s0 Q E) : MetG l x yX12_worthOf cX12_worthOf 2 (some .int) 7 103 1 6 [.ref (xad x 14 0), .int a1] s0 (RI Q) E := by
  refine MetG.of hl (by decide) (Nat.le_of_ble_eq_true rfl) [some (.ref (xad x 14 0)), some (.int a1)] rfl (fun K B hx _ => ?_)
  subst hx
  unfold wX12_worthOf at h
  refine g_aload_n (np := 1) B.1 dX12_worthOf_0 rfl rfl ?_
  refine g_iload_n (np := 2) B.1 dX12_worthOf_1 rfl rfl ?_
  refine gc_Y_232 (np := 5) B   (oX12_testPiece B.1.tr   a1  _ _ _ h) (Nat.le_of_ble_eq_true rfl) (Nat.le_of_ble_eq_true rfl) (Nat.le_of_ble_eq_true rfl) (Nat.le_of_ble_eq_true rfl) (Nat.le_of_ble_eq_true rfl) dX12_worthOf_2 rfl (fun s2 h => ?_)
  refine g_aload_n (np := 6) B.1 dX12_worthOf_5 rfl rfl ?_
  refine gf_Y_10_14 (np := 9) B.1 dX12_worthOf_6 rfl ?_
  refine g_iload_n (np := 10) B.1 dX12_worthOf_9 rfl rfl ?_
  refine gc_Y_240 (np := 13) B 0 (by decide : (0 : Nat) < 11) (oX10_worthAt B.1.tr 0 (by decide : (0 : Nat) < 11) a1  _ _ _ h) (Nat.le_of_ble_eq_true rfl) (Nat.le_of_ble_eq_true rfl) (Nat.le_of_ble_eq_true rfl) (Nat.le_of_ble_eq_true rfl) (Nat.le_of_ble_eq_true rfl) dX12_worthOf_10 rfl (fun r3 s4 h => ?_)
  exact g_iret B (ty := .int) rfl rfl (Nat.le_of_ble_eq_true rfl) (Nat.le_of_ble_eq_true rfl) dX12_worthOf_13 ⟨_, rfl, h⟩
def wX12_spliceCost   (s0 : Mem) (Q : Int32 → Mem → Prop) (E : String → Mem → Prop) : Prop := wX9_costByTable   s0 (fun (r1 : Int32) (s2 : Mem) => Q r1 s2) E
set_option maxRecDepth 20000 in
set_option maxHeartbeats 4000000 in
theorem oX12_spliceCost {l : Launch} {x : Ctx} (hl : l.stackTraces = false)     (s0 : Mem) (Q : Int32 → Mem → Prop) (E : String → Mem → Prop) (h : wX12_spliceCost   s0 Q E) : MetG l x yX12_spliceCost cX12_spliceCost 1 (some .int) 3 70 0 0 [.ref (xad x 14 0)] s0 (RI Q) E := by
  refine MetG.of hl (by decide) (Nat.le_of_ble_eq_true rfl) [some (.ref (xad x 14 0))] rfl (fun K B hx _ => ?_)
  subst hx
  unfold wX12_spliceCost at h
  refine g_aload_n (np := 1) B.1 dX12_spliceCost_0 rfl rfl ?_
  refine gf_Y_46_14 (np := 4) B.1 dX12_spliceCost_1 rfl ?_
  refine g_aload_n (np := 5) B.1 dX12_spliceCost_4 rfl rfl ?_
  refine gf_Y_10_14 (np := 8) B.1 dX12_spliceCost_5 rfl ?_
  refine gf_Y_229_4 (np := 11) B.1 0 (by decide : (0 : Nat) < 11) dX12_spliceCost_8 rfl ?_
  refine gc_Y_243 (np := 14) B   (oX9_costByTable B.1.tr     _ _ _ h) (Nat.le_of_ble_eq_true rfl) (Nat.le_of_ble_eq_true rfl) (Nat.le_of_ble_eq_true rfl) (Nat.le_of_ble_eq_true rfl) (Nat.le_of_ble_eq_true rfl) dX12_spliceCost_11 rfl (fun r1 s2 h => ?_)
  exact g_iret B (ty := .int) rfl rfl (Nat.le_of_ble_eq_true rfl) (Nat.le_of_ble_eq_true rfl) dX12_spliceCost_14 ⟨_, rfl, h⟩
def wX12_spliceCostByMemory   (s0 : Mem) (Q : Int32 → Mem → Prop) (E : String → Mem → Prop) : Prop := wX9_costByMemory   s0 (fun (r1 : Int32) (s2 : Mem) => Q r1 s2) E
set_option maxRecDepth 20000 in
set_option maxHeartbeats 4000000 in
theorem oX12_spliceCostByMemory {l : Launch} {x : Ctx} (hl : l.stackTraces = false)     (s0 : Mem) (Q : Int32 → Mem → Prop) (E : String → Mem → Prop) (h : wX12_spliceCostByMemory   s0 Q E) : MetG l x yX12_spliceCostByMemory cX12_spliceCostByMemory 1 (some .int) 16 422 0 0 [.ref (xad x 14 0)] s0 (RI Q) E := by
  refine MetG.of hl (by decide) (Nat.le_of_ble_eq_true rfl) [some (.ref (xad x 14 0))] rfl (fun K B hx _ => ?_)
  subst hx
  unfold wX12_spliceCostByMemory at h
  refine g_aload_n (np := 1) B.1 dX12_spliceCostByMemory_0 rfl rfl ?_
  refine gf_Y_46_14 (np := 4) B.1 dX12_spliceCostByMemory_1 rfl ?_
  refine g_aload_n (np := 5) B.1 dX12_spliceCostByMemory_4 rfl rfl ?_
  refine gf_Y_10_14 (np := 8) B.1 dX12_spliceCostByMemory_5 rfl ?_
  refine gf_Y_229_4 (np := 11) B.1 0 (by decide : (0 : Nat) < 11) dX12_spliceCostByMemory_8 rfl ?_
  refine gc_Y_247 (np := 14) B   (oX9_costByMemory B.1.tr     _ _ _ h) (Nat.le_of_ble_eq_true rfl) (Nat.le_of_ble_eq_true rfl) (Nat.le_of_ble_eq_true rfl) (Nat.le_of_ble_eq_true rfl) (Nat.le_of_ble_eq_true rfl) dX12_spliceCostByMemory_11 rfl (fun r1 s2 h => ?_)
  exact g_iret B (ty := .int) rfl rfl (Nat.le_of_ble_eq_true rfl) (Nat.le_of_ble_eq_true rfl) dX12_spliceCostByMemory_14 ⟨_, rfl, h⟩
def wX12_roving   (s0 : Mem) (Q : Int32 → Mem → Prop) (E : String → Mem → Prop) : Prop := Q (rd s0 4 0 3) s0
set_option maxRecDepth 20000 in
set_option maxHeartbeats 4000000 in
theorem oX12_roving {l : Launch} {x : Ctx} (hl : l.stackTraces = false)     (s0 : Mem) (Q : Int32 → Mem → Prop) (E : String → Mem → Prop) (h : wX12_roving   s0 Q E) : MetG l x yX12_roving cX12_roving 1 (some .int) 0 0 0 0 [.ref (xad x 14 0)] s0 (RI Q) E := by
  refine MetG.of hl (by decide) (Nat.le_of_ble_eq_true rfl) [some (.ref (xad x 14 0))] rfl (fun K B hx _ => ?_)
  subst hx
  unfold wX12_roving at h
  refine g_aload_n (np := 1) B.1 dX12_roving_0 rfl rfl ?_
  refine gf_Y_10_14 (np := 4) B.1 dX12_roving_1 rfl ?_
  refine gf_Y_250_4 (np := 7) B.1 0 (by decide : (0 : Nat) < 11) dX12_roving_4 rfl ?_
  exact g_iret B (ty := .int) rfl rfl (Nat.le_of_ble_eq_true rfl) (Nat.le_of_ble_eq_true rfl) dX12_roving_7 ⟨_, rfl, h⟩
def wX12_machines   (s0 : Mem) (Q : Int32 → Mem → Prop) (E : String → Mem → Prop) : Prop := Q (rd s0 4 0 4) s0
set_option maxRecDepth 20000 in
set_option maxHeartbeats 4000000 in
theorem oX12_machines {l : Launch} {x : Ctx} (hl : l.stackTraces = false)     (s0 : Mem) (Q : Int32 → Mem → Prop) (E : String → Mem → Prop) (h : wX12_machines   s0 Q E) : MetG l x yX12_machines cX12_machines 1 (some .int) 0 0 0 0 [.ref (xad x 14 0)] s0 (RI Q) E := by
  refine MetG.of hl (by decide) (Nat.le_of_ble_eq_true rfl) [some (.ref (xad x 14 0))] rfl (fun K B hx _ => ?_)
  subst hx
  unfold wX12_machines at h
  refine g_aload_n (np := 1) B.1 dX12_machines_0 rfl rfl ?_
  refine gf_Y_10_14 (np := 4) B.1 dX12_machines_1 rfl ?_
  refine gf_Y_219_4 (np := 7) B.1 0 (by decide : (0 : Nat) < 11) dX12_machines_4 rfl ?_
  exact g_iret B (ty := .int) rfl rfl (Nat.le_of_ble_eq_true rfl) (Nat.le_of_ble_eq_true rfl) dX12_machines_7 ⟨_, rfl, h⟩
def wX12_clock   (s0 : Mem) (Q : Int32 → Mem → Prop) (E : String → Mem → Prop) : Prop := Q (rd s0 4 0 5) s0
set_option maxRecDepth 20000 in
set_option maxHeartbeats 4000000 in
theorem oX12_clock {l : Launch} {x : Ctx} (hl : l.stackTraces = false)     (s0 : Mem) (Q : Int32 → Mem → Prop) (E : String → Mem → Prop) (h : wX12_clock   s0 Q E) : MetG l x yX12_clock cX12_clock 1 (some .int) 0 0 0 0 [.ref (xad x 14 0)] s0 (RI Q) E := by
  refine MetG.of hl (by decide) (Nat.le_of_ble_eq_true rfl) [some (.ref (xad x 14 0))] rfl (fun K B hx _ => ?_)
  subst hx
  unfold wX12_clock at h
  refine g_aload_n (np := 1) B.1 dX12_clock_0 rfl rfl ?_
  refine gf_Y_10_14 (np := 4) B.1 dX12_clock_1 rfl ?_
  refine gf_Y_253_4 (np := 7) B.1 0 (by decide : (0 : Nat) < 11) dX12_clock_4 rfl ?_
  exact g_iret B (ty := .int) rfl rfl (Nat.le_of_ble_eq_true rfl) (Nat.le_of_ble_eq_true rfl) dX12_clock_7 ⟨_, rfl, h⟩
def wX12_coins   (s0 : Mem) (Q : Int32 → Mem → Prop) (E : String → Mem → Prop) : Prop := Q (rd s0 4 0 6) s0
set_option maxRecDepth 20000 in
set_option maxHeartbeats 4000000 in
theorem oX12_coins {l : Launch} {x : Ctx} (hl : l.stackTraces = false)     (s0 : Mem) (Q : Int32 → Mem → Prop) (E : String → Mem → Prop) (h : wX12_coins   s0 Q E) : MetG l x yX12_coins cX12_coins 1 (some .int) 0 0 0 0 [.ref (xad x 14 0)] s0 (RI Q) E := by
  refine MetG.of hl (by decide) (Nat.le_of_ble_eq_true rfl) [some (.ref (xad x 14 0))] rfl (fun K B hx _ => ?_)
  subst hx
  unfold wX12_coins at h
  refine g_aload_n (np := 1) B.1 dX12_coins_0 rfl rfl ?_
  refine gf_Y_10_14 (np := 4) B.1 dX12_coins_1 rfl ?_
  refine gf_Y_256_4 (np := 7) B.1 0 (by decide : (0 : Nat) < 11) dX12_coins_4 rfl ?_
  exact g_iret B (ty := .int) rfl rfl (Nat.le_of_ble_eq_true rfl) (Nat.le_of_ble_eq_true rfl) dX12_coins_7 ⟨_, rfl, h⟩
def wX12_coinsByAccounts   (s0 : Mem) (Q : Int32 → Mem → Prop) (E : String → Mem → Prop) : Prop := wX10_accountedCoins 0  s0 (fun (r1 : Int32) (s2 : Mem) => Q r1 s2) E
set_option maxRecDepth 20000 in
set_option maxHeartbeats 4000000 in
theorem oX12_coinsByAccounts {l : Launch} {x : Ctx} (hl : l.stackTraces = false)     (s0 : Mem) (Q : Int32 → Mem → Prop) (E : String → Mem → Prop) (h : wX12_coinsByAccounts   s0 Q E) : MetG l x yX12_coinsByAccounts cX12_coinsByAccounts 1 (some .int) 1 20 0 0 [.ref (xad x 14 0)] s0 (RI Q) E := by
  refine MetG.of hl (by decide) (Nat.le_of_ble_eq_true rfl) [some (.ref (xad x 14 0))] rfl (fun K B hx _ => ?_)
  subst hx
  unfold wX12_coinsByAccounts at h
  refine g_aload_n (np := 1) B.1 dX12_coinsByAccounts_0 rfl rfl ?_
  refine gf_Y_10_14 (np := 4) B.1 dX12_coinsByAccounts_1 rfl ?_
  refine gc_Y_259 (np := 7) B 0 (by decide : (0 : Nat) < 11) (oX10_accountedCoins B.1.tr 0 (by decide : (0 : Nat) < 11)   _ _ _ h) (Nat.le_of_ble_eq_true rfl) (Nat.le_of_ble_eq_true rfl) (Nat.le_of_ble_eq_true rfl) (Nat.le_of_ble_eq_true rfl) (Nat.le_of_ble_eq_true rfl) dX12_coinsByAccounts_4 rfl (fun r1 s2 h => ?_)
  exact g_iret B (ty := .int) rfl rfl (Nat.le_of_ble_eq_true rfl) (Nat.le_of_ble_eq_true rfl) dX12_coinsByAccounts_7 ⟨_, rfl, h⟩
def wX12_spunTotal   (s0 : Mem) (Q : Int32 → Mem → Prop) (E : String → Mem → Prop) : Prop := Q (rd s0 4 0 9) s0
set_option maxRecDepth 20000 in
set_option maxHeartbeats 4000000 in
theorem oX12_spunTotal {l : Launch} {x : Ctx} (hl : l.stackTraces = false)     (s0 : Mem) (Q : Int32 → Mem → Prop) (E : String → Mem → Prop) (h : wX12_spunTotal   s0 Q E) : MetG l x yX12_spunTotal cX12_spunTotal 1 (some .int) 0 0 0 0 [.ref (xad x 14 0)] s0 (RI Q) E := by
  refine MetG.of hl (by decide) (Nat.le_of_ble_eq_true rfl) [some (.ref (xad x 14 0))] rfl (fun K B hx _ => ?_)
  subst hx
  unfold wX12_spunTotal at h
  refine g_aload_n (np := 1) B.1 dX12_spunTotal_0 rfl rfl ?_
  refine gf_Y_10_14 (np := 4) B.1 dX12_spunTotal_1 rfl ?_
  refine gf_Y_262_4 (np := 7) B.1 0 (by decide : (0 : Nat) < 11) dX12_spunTotal_4 rfl ?_
  exact g_iret B (ty := .int) rfl rfl (Nat.le_of_ble_eq_true rfl) (Nat.le_of_ble_eq_true rfl) dX12_spunTotal_7 ⟨_, rfl, h⟩
def wX12_wasteTotal   (s0 : Mem) (Q : Int32 → Mem → Prop) (E : String → Mem → Prop) : Prop := Q (rd s0 4 0 10) s0
set_option maxRecDepth 20000 in
set_option maxHeartbeats 4000000 in
theorem oX12_wasteTotal {l : Launch} {x : Ctx} (hl : l.stackTraces = false)     (s0 : Mem) (Q : Int32 → Mem → Prop) (E : String → Mem → Prop) (h : wX12_wasteTotal   s0 Q E) : MetG l x yX12_wasteTotal cX12_wasteTotal 1 (some .int) 0 0 0 0 [.ref (xad x 14 0)] s0 (RI Q) E := by
  refine MetG.of hl (by decide) (Nat.le_of_ble_eq_true rfl) [some (.ref (xad x 14 0))] rfl (fun K B hx _ => ?_)
  subst hx
  unfold wX12_wasteTotal at h
  refine g_aload_n (np := 1) B.1 dX12_wasteTotal_0 rfl rfl ?_
  refine gf_Y_10_14 (np := 4) B.1 dX12_wasteTotal_1 rfl ?_
  refine gf_Y_265_4 (np := 7) B.1 0 (by decide : (0 : Nat) < 11) dX12_wasteTotal_4 rfl ?_
  exact g_iret B (ty := .int) rfl rfl (Nat.le_of_ble_eq_true rfl) (Nat.le_of_ble_eq_true rfl) dX12_wasteTotal_7 ⟨_, rfl, h⟩
def wX12_soldTotal   (s0 : Mem) (Q : Int32 → Mem → Prop) (E : String → Mem → Prop) : Prop := Q (rd s0 4 0 11) s0
set_option maxRecDepth 20000 in
set_option maxHeartbeats 4000000 in
theorem oX12_soldTotal {l : Launch} {x : Ctx} (hl : l.stackTraces = false)     (s0 : Mem) (Q : Int32 → Mem → Prop) (E : String → Mem → Prop) (h : wX12_soldTotal   s0 Q E) : MetG l x yX12_soldTotal cX12_soldTotal 1 (some .int) 0 0 0 0 [.ref (xad x 14 0)] s0 (RI Q) E := by
  refine MetG.of hl (by decide) (Nat.le_of_ble_eq_true rfl) [some (.ref (xad x 14 0))] rfl (fun K B hx _ => ?_)
  subst hx
  unfold wX12_soldTotal at h
  refine g_aload_n (np := 1) B.1 dX12_soldTotal_0 rfl rfl ?_
  refine gf_Y_10_14 (np := 4) B.1 dX12_soldTotal_1 rfl ?_
  refine gf_Y_268_4 (np := 7) B.1 0 (by decide : (0 : Nat) < 11) dX12_soldTotal_4 rfl ?_
  exact g_iret B (ty := .int) rfl rfl (Nat.le_of_ble_eq_true rfl) (Nat.le_of_ble_eq_true rfl) dX12_soldTotal_7 ⟨_, rfl, h⟩
def wX12_shelfLength   (s0 : Mem) (Q : Int32 → Mem → Prop) (E : String → Mem → Prop) : Prop := wX7_sum 9  s0 (fun (r1 : Int32) (s2 : Mem) => Q r1 s2) E
set_option maxRecDepth 20000 in
set_option maxHeartbeats 4000000 in
theorem oX12_shelfLength {l : Launch} {x : Ctx} (hl : l.stackTraces = false)     (s0 : Mem) (Q : Int32 → Mem → Prop) (E : String → Mem → Prop) (h : wX12_shelfLength   s0 Q E) : MetG l x yX12_shelfLength cX12_shelfLength 1 (some .int) 1 22 0 0 [.ref (xad x 14 0)] s0 (RI Q) E := by
  refine MetG.of hl (by decide) (Nat.le_of_ble_eq_true rfl) [some (.ref (xad x 14 0))] rfl (fun K B hx _ => ?_)
  subst hx
  unfold wX12_shelfLength at h
  refine g_aload_n (np := 1) B.1 dX12_shelfLength_0 rfl rfl ?_
  refine gf_Y_10_14 (np := 4) B.1 dX12_shelfLength_1 rfl ?_
  refine gf_Y_229_4 (np := 7) B.1 0 (by decide : (0 : Nat) < 11) dX12_shelfLength_4 rfl ?_
  refine gc_Y_271 (np := 10) B 9 (by decide : (9 : Nat) < 112) (oX7_sum B.1.tr 9 (by decide : (9 : Nat) < 112)   _ _ _ h) (Nat.le_of_ble_eq_true rfl) (Nat.le_of_ble_eq_true rfl) (Nat.le_of_ble_eq_true rfl) (Nat.le_of_ble_eq_true rfl) (Nat.le_of_ble_eq_true rfl) dX12_shelfLength_7 rfl (fun r1 s2 h => ?_)
  exact g_iret B (ty := .int) rfl rfl (Nat.le_of_ble_eq_true rfl) (Nat.le_of_ble_eq_true rfl) dX12_shelfLength_10 ⟨_, rfl, h⟩
def wX12_shelfLengthByAccounts   (s0 : Mem) (Q : Int32 → Mem → Prop) (E : String → Mem → Prop) : Prop := wX10_accountedLength 0  s0 (fun (r1 : Int32) (s2 : Mem) => Q r1 s2) E
set_option maxRecDepth 20000 in
set_option maxHeartbeats 4000000 in
theorem oX12_shelfLengthByAccounts {l : Launch} {x : Ctx} (hl : l.stackTraces = false)     (s0 : Mem) (Q : Int32 → Mem → Prop) (E : String → Mem → Prop) (h : wX12_shelfLengthByAccounts   s0 Q E) : MetG l x yX12_shelfLengthByAccounts cX12_shelfLengthByAccounts 1 (some .int) 1 20 0 0 [.ref (xad x 14 0)] s0 (RI Q) E := by
  refine MetG.of hl (by decide) (Nat.le_of_ble_eq_true rfl) [some (.ref (xad x 14 0))] rfl (fun K B hx _ => ?_)
  subst hx
  unfold wX12_shelfLengthByAccounts at h
  refine g_aload_n (np := 1) B.1 dX12_shelfLengthByAccounts_0 rfl rfl ?_
  refine gf_Y_10_14 (np := 4) B.1 dX12_shelfLengthByAccounts_1 rfl ?_
  refine gc_Y_274 (np := 7) B 0 (by decide : (0 : Nat) < 11) (oX10_accountedLength B.1.tr 0 (by decide : (0 : Nat) < 11)   _ _ _ h) (Nat.le_of_ble_eq_true rfl) (Nat.le_of_ble_eq_true rfl) (Nat.le_of_ble_eq_true rfl) (Nat.le_of_ble_eq_true rfl) (Nat.le_of_ble_eq_true rfl) dX12_shelfLengthByAccounts_4 rfl (fun r1 s2 h => ?_)
  exact g_iret B (ty := .int) rfl rfl (Nat.le_of_ble_eq_true rfl) (Nat.le_of_ble_eq_true rfl) dX12_shelfLengthByAccounts_7 ⟨_, rfl, h⟩
def wX12_isConsistent   (s0 : Mem) (Q : Int32 → Mem → Prop) (E : String → Mem → Prop) : Prop := wX12_blendWaysAgree  1 10 s0 (fun (r1 : Int32) (s2 : Mem) => ((r1 = 0 → Q 0 s2) ∧ (¬ r1 = 0 → wX12_blendWaysAgree  20 30 s2 (fun (r3 : Int32) (s4 : Mem) => ((r3 = 0 → Q 0 s4) ∧ (¬ r3 = 0 → wX12_blendWaysAgree  60 45 s4 (fun (r5 : Int32) (s6 : Mem) => ((r5 = 0 → Q 0 s6) ∧ (¬ r5 = 0 → wX11_shortestBySets  (rd s6 4 0 4) s6 (fun (r7 : Int32) (s8 : Mem) => wX11_shortestBySearch  (rd s8 4 0 4) s8 (fun (r9 : Int32) (s10 : Mem) => ((¬ r7 = r9 → Q 0 s10) ∧ (r7 = r9 → wX9_costByTable   s10 (fun (r11 : Int32) (s12 : Mem) => wX9_costByMemory   s12 (fun (r13 : Int32) (s14 : Mem) => ((¬ r11 = r13 → Q 0 s14) ∧ (r11 = r13 → wX10_accountedCoins 0  s14 (fun (r15 : Int32) (s16 : Mem) => ((¬ rd s14 4 0 6 = r15 → Q 0 s16) ∧ (rd s14 4 0 6 = r15 → wX7_sum 9  s16 (fun (r17 : Int32) (s18 : Mem) => wX10_accountedLength 0  s18 (fun (r19 : Int32) (s20 : Mem) => ((¬ r17 = r19 → Q 0 s20) ∧ (r17 = r19 → Q 1 s20))) E) E))) E))) E) E))) E) E))) E))) E))) E
set_option maxRecDepth 20000 in
set_option maxHeartbeats 4000000 in
theorem oX12_isConsistent {l : Launch} {x : Ctx} (hl : l.stackTraces = false)     (s0 : Mem) (Q : Int32 → Mem → Prop) (E : String → Mem → Prop) (h : wX12_isConsistent   s0 Q E) : MetG l x yX12_isConsistent cX12_isConsistent 1 (some .boolean) 16 422 0 0 [.ref (xad x 14 0)] s0 (RI Q) E := by
  refine MetG.of hl (by decide) (Nat.le_of_ble_eq_true rfl) [some (.ref (xad x 14 0))] rfl (fun K B hx _ => ?_)
  subst hx
  unfold wX12_isConsistent at h
  refine g_aload_n (np := 1) B.1 dX12_isConsistent_0 rfl rfl ?_
  refine g_iconst (np := 2) (v := 1) B.1 dX12_isConsistent_1 (by decide) rfl ?_
  refine g_bipush (np := 4) (v := 10) B.1 dX12_isConsistent_2 (by decide) rfl ?_
  refine gc_Y_283 (np := 7) B   (oX12_blendWaysAgree B.1.tr   1 10  _ _ _ h) (Nat.le_of_ble_eq_true rfl) (Nat.le_of_ble_eq_true rfl) (Nat.le_of_ble_eq_true rfl) (Nat.le_of_ble_eq_true rfl) (Nat.le_of_ble_eq_true rfl) dX12_isConsistent_4 rfl (fun r1 s2 h => ?_)
  refine g_if_eq (np := 10) (tgt := 149) B.1 dX12_isConsistent_7 (by decide) rfl (fun q => ?_) (fun q => ?_)
  · replace h := h.1 q
    refine g_iconst (np := 150) (v := 0) B.1 dX12_isConsistent_149 (by decide) rfl ?_
    exact g_iret B (ty := .boolean) rfl (by decide) (Nat.le_of_ble_eq_true rfl) (Nat.le_of_ble_eq_true rfl) dX12_isConsistent_150 ⟨_, rfl, h⟩
  · replace h := h.2 q
    refine g_aload_n (np := 11) B.1 dX12_isConsistent_10 rfl rfl ?_
    refine g_bipush (np := 13) (v := 20) B.1 dX12_isConsistent_11 (by decide) rfl ?_
    refine g_bipush (np := 15) (v := 30) B.1 dX12_isConsistent_13 (by decide) rfl ?_
    refine gc_Y_283 (np := 18) B   (oX12_blendWaysAgree B.1.tr   20 30  _ _ _ h) (Nat.le_of_ble_eq_true rfl) (Nat.le_of_ble_eq_true rfl) (Nat.le_of_ble_eq_true rfl) (Nat.le_of_ble_eq_true rfl) (Nat.le_of_ble_eq_true rfl) dX12_isConsistent_15 rfl (fun r3 s4 h => ?_)
    refine g_if_eq (np := 21) (tgt := 149) B.1 dX12_isConsistent_18 (by decide) rfl (fun q => ?_) (fun q => ?_)
    · replace h := h.1 q
      refine g_iconst (np := 150) (v := 0) B.1 dX12_isConsistent_149 (by decide) rfl ?_
      exact g_iret B (ty := .boolean) rfl (by decide) (Nat.le_of_ble_eq_true rfl) (Nat.le_of_ble_eq_true rfl) dX12_isConsistent_150 ⟨_, rfl, h⟩
    · replace h := h.2 q
      refine g_aload_n (np := 22) B.1 dX12_isConsistent_21 rfl rfl ?_
      refine g_bipush (np := 24) (v := 60) B.1 dX12_isConsistent_22 (by decide) rfl ?_
      refine g_bipush (np := 26) (v := 45) B.1 dX12_isConsistent_24 (by decide) rfl ?_
      refine gc_Y_283 (np := 29) B   (oX12_blendWaysAgree B.1.tr   60 45  _ _ _ h) (Nat.le_of_ble_eq_true rfl) (Nat.le_of_ble_eq_true rfl) (Nat.le_of_ble_eq_true rfl) (Nat.le_of_ble_eq_true rfl) (Nat.le_of_ble_eq_true rfl) dX12_isConsistent_26 rfl (fun r5 s6 h => ?_)
      refine g_if_eq (np := 32) (tgt := 149) B.1 dX12_isConsistent_29 (by decide) rfl (fun q => ?_) (fun q => ?_)
      · replace h := h.1 q
        refine g_iconst (np := 150) (v := 0) B.1 dX12_isConsistent_149 (by decide) rfl ?_
        exact g_iret B (ty := .boolean) rfl (by decide) (Nat.le_of_ble_eq_true rfl) (Nat.le_of_ble_eq_true rfl) dX12_isConsistent_150 ⟨_, rfl, h⟩
      · replace h := h.2 q
        refine g_aload_n (np := 33) B.1 dX12_isConsistent_32 rfl rfl ?_
        refine gf_Y_39_14 (np := 36) B.1 dX12_isConsistent_33 rfl ?_
        refine g_aload_n (np := 37) B.1 dX12_isConsistent_36 rfl rfl ?_
        refine gf_Y_10_14 (np := 40) B.1 dX12_isConsistent_37 rfl ?_
        refine gf_Y_184_4 (np := 43) B.1 0 (by decide : (0 : Nat) < 11) dX12_isConsistent_40 rfl ?_
        refine g_aload_n (np := 44) B.1 dX12_isConsistent_43 rfl rfl ?_
        refine gf_Y_10_14 (np := 47) B.1 dX12_isConsistent_44 rfl ?_
        refine gf_Y_219_4 (np := 50) B.1 0 (by decide : (0 : Nat) < 11) dX12_isConsistent_47 rfl ?_
        refine gc_Y_222 (np := 53) B   (oX11_shortestBySets B.1.tr   (rd s6 4 0 4)  _ _ _ h) (Nat.le_of_ble_eq_true rfl) (Nat.le_of_ble_eq_true rfl) (Nat.le_of_ble_eq_true rfl) (Nat.le_of_ble_eq_true rfl) (Nat.le_of_ble_eq_true rfl) dX12_isConsistent_50 rfl (fun r7 s8 h => ?_)
        refine g_aload_n (np := 54) B.1 dX12_isConsistent_53 rfl rfl ?_
        refine gf_Y_39_14 (np := 57) B.1 dX12_isConsistent_54 rfl ?_
        refine g_aload_n (np := 58) B.1 dX12_isConsistent_57 rfl rfl ?_
        refine gf_Y_10_14 (np := 61) B.1 dX12_isConsistent_58 rfl ?_
        refine gf_Y_184_4 (np := 64) B.1 0 (by decide : (0 : Nat) < 11) dX12_isConsistent_61 rfl ?_
        refine g_aload_n (np := 65) B.1 dX12_isConsistent_64 rfl rfl ?_
        refine gf_Y_10_14 (np := 68) B.1 dX12_isConsistent_65 rfl ?_
        refine gf_Y_219_4 (np := 71) B.1 0 (by decide : (0 : Nat) < 11) dX12_isConsistent_68 rfl ?_
        refine gc_Y_226 (np := 74) B   (oX11_shortestBySearch B.1.tr   (rd s8 4 0 4)  _ _ _ h) (Nat.le_of_ble_eq_true rfl) (Nat.le_of_ble_eq_true rfl) (Nat.le_of_ble_eq_true rfl) (Nat.le_of_ble_eq_true rfl) (Nat.le_of_ble_eq_true rfl) dX12_isConsistent_71 rfl (fun r9 s10 h => ?_)
        refine g_icmp_ne (np := 77) (tgt := 149) B.1 dX12_isConsistent_74 (by decide) rfl (fun q => ?_) (fun q => ?_)
        · replace h := h.1 q
          refine g_iconst (np := 150) (v := 0) B.1 dX12_isConsistent_149 (by decide) rfl ?_
          exact g_iret B (ty := .boolean) rfl (by decide) (Nat.le_of_ble_eq_true rfl) (Nat.le_of_ble_eq_true rfl) dX12_isConsistent_150 ⟨_, rfl, h⟩
        · replace h := h.2 q
          refine g_aload_n (np := 78) B.1 dX12_isConsistent_77 rfl rfl ?_
          refine gf_Y_46_14 (np := 81) B.1 dX12_isConsistent_78 rfl ?_
          refine g_aload_n (np := 82) B.1 dX12_isConsistent_81 rfl rfl ?_
          refine gf_Y_10_14 (np := 85) B.1 dX12_isConsistent_82 rfl ?_
          refine gf_Y_229_4 (np := 88) B.1 0 (by decide : (0 : Nat) < 11) dX12_isConsistent_85 rfl ?_
          refine gc_Y_243 (np := 91) B   (oX9_costByTable B.1.tr     _ _ _ h) (Nat.le_of_ble_eq_true rfl) (Nat.le_of_ble_eq_true rfl) (Nat.le_of_ble_eq_true rfl) (Nat.le_of_ble_eq_true rfl) (Nat.le_of_ble_eq_true rfl) dX12_isConsistent_88 rfl (fun r11 s12 h => ?_)
          refine g_aload_n (np := 92) B.1 dX12_isConsistent_91 rfl rfl ?_
          refine gf_Y_46_14 (np := 95) B.1 dX12_isConsistent_92 rfl ?_
          refine g_aload_n (np := 96) B.1 dX12_isConsistent_95 rfl rfl ?_
          refine gf_Y_10_14 (np := 99) B.1 dX12_isConsistent_96 rfl ?_
          refine gf_Y_229_4 (np := 102) B.1 0 (by decide : (0 : Nat) < 11) dX12_isConsistent_99 rfl ?_
          refine gc_Y_247 (np := 105) B   (oX9_costByMemory B.1.tr     _ _ _ h) (Nat.le_of_ble_eq_true rfl) (Nat.le_of_ble_eq_true rfl) (Nat.le_of_ble_eq_true rfl) (Nat.le_of_ble_eq_true rfl) (Nat.le_of_ble_eq_true rfl) dX12_isConsistent_102 rfl (fun r13 s14 h => ?_)
          refine g_icmp_ne (np := 108) (tgt := 149) B.1 dX12_isConsistent_105 (by decide) rfl (fun q => ?_) (fun q => ?_)
          · replace h := h.1 q
            refine g_iconst (np := 150) (v := 0) B.1 dX12_isConsistent_149 (by decide) rfl ?_
            exact g_iret B (ty := .boolean) rfl (by decide) (Nat.le_of_ble_eq_true rfl) (Nat.le_of_ble_eq_true rfl) dX12_isConsistent_150 ⟨_, rfl, h⟩
          · replace h := h.2 q
            refine g_aload_n (np := 109) B.1 dX12_isConsistent_108 rfl rfl ?_
            refine gf_Y_10_14 (np := 112) B.1 dX12_isConsistent_109 rfl ?_
            refine gf_Y_256_4 (np := 115) B.1 0 (by decide : (0 : Nat) < 11) dX12_isConsistent_112 rfl ?_
            refine g_aload_n (np := 116) B.1 dX12_isConsistent_115 rfl rfl ?_
            refine gf_Y_10_14 (np := 119) B.1 dX12_isConsistent_116 rfl ?_
            refine gc_Y_259 (np := 122) B 0 (by decide : (0 : Nat) < 11) (oX10_accountedCoins B.1.tr 0 (by decide : (0 : Nat) < 11)   _ _ _ h) (Nat.le_of_ble_eq_true rfl) (Nat.le_of_ble_eq_true rfl) (Nat.le_of_ble_eq_true rfl) (Nat.le_of_ble_eq_true rfl) (Nat.le_of_ble_eq_true rfl) dX12_isConsistent_119 rfl (fun r15 s16 h => ?_)
            refine g_icmp_ne (np := 125) (tgt := 149) B.1 dX12_isConsistent_122 (by decide) rfl (fun q => ?_) (fun q => ?_)
            · replace h := h.1 q
              refine g_iconst (np := 150) (v := 0) B.1 dX12_isConsistent_149 (by decide) rfl ?_
              exact g_iret B (ty := .boolean) rfl (by decide) (Nat.le_of_ble_eq_true rfl) (Nat.le_of_ble_eq_true rfl) dX12_isConsistent_150 ⟨_, rfl, h⟩
            · replace h := h.2 q
              refine g_aload_n (np := 126) B.1 dX12_isConsistent_125 rfl rfl ?_
              refine gf_Y_10_14 (np := 129) B.1 dX12_isConsistent_126 rfl ?_
              refine gf_Y_229_4 (np := 132) B.1 0 (by decide : (0 : Nat) < 11) dX12_isConsistent_129 rfl ?_
              refine gc_Y_271 (np := 135) B 9 (by decide : (9 : Nat) < 112) (oX7_sum B.1.tr 9 (by decide : (9 : Nat) < 112)   _ _ _ h) (Nat.le_of_ble_eq_true rfl) (Nat.le_of_ble_eq_true rfl) (Nat.le_of_ble_eq_true rfl) (Nat.le_of_ble_eq_true rfl) (Nat.le_of_ble_eq_true rfl) dX12_isConsistent_132 rfl (fun r17 s18 h => ?_)
              refine g_aload_n (np := 136) B.1 dX12_isConsistent_135 rfl rfl ?_
              refine gf_Y_10_14 (np := 139) B.1 dX12_isConsistent_136 rfl ?_
              refine gc_Y_274 (np := 142) B 0 (by decide : (0 : Nat) < 11) (oX10_accountedLength B.1.tr 0 (by decide : (0 : Nat) < 11)   _ _ _ h) (Nat.le_of_ble_eq_true rfl) (Nat.le_of_ble_eq_true rfl) (Nat.le_of_ble_eq_true rfl) (Nat.le_of_ble_eq_true rfl) (Nat.le_of_ble_eq_true rfl) dX12_isConsistent_139 rfl (fun r19 s20 h => ?_)
              refine g_icmp_ne (np := 145) (tgt := 149) B.1 dX12_isConsistent_142 (by decide) rfl (fun q => ?_) (fun q => ?_)
              · replace h := h.1 q
                refine g_iconst (np := 150) (v := 0) B.1 dX12_isConsistent_149 (by decide) rfl ?_
                exact g_iret B (ty := .boolean) rfl (by decide) (Nat.le_of_ble_eq_true rfl) (Nat.le_of_ble_eq_true rfl) dX12_isConsistent_150 ⟨_, rfl, h⟩
              · replace h := h.2 q
                refine g_iconst (np := 146) (v := 1) B.1 dX12_isConsistent_145 (by decide) rfl ?_
                refine g_goto (tgt := 150) B.1 dX12_isConsistent_146 (by decide) ?_
                exact g_iret B (ty := .boolean) rfl (by decide) (Nat.le_of_ble_eq_true rfl) (Nat.le_of_ble_eq_true rfl) dX12_isConsistent_150 ⟨_, rfl, h⟩
def wX12_undo   (s0 : Mem) (Q : Int32 → Mem → Prop) (E : String → Mem → Prop) : Prop := wX4_count   s0 (fun (r1 : Int32) (s2 : Mem) => ((¬ r1 = 0 → wX4_takeBack   s2 (fun (s4 : Mem) => wX4_count   s4 (fun (r5 : Int32) (s6 : Mem) => Q r5 s6) E) E) ∧ (r1 = 0 → E "java/util/NoSuchElementException" s2))) E
set_option maxRecDepth 20000 in
set_option maxHeartbeats 4000000 in
theorem oX12_undo {l : Launch} {x : Ctx} (hl : l.stackTraces = false)     (s0 : Mem) (Q : Int32 → Mem → Prop) (E : String → Mem → Prop) (h : wX12_undo   s0 Q E) : MetG l x yX12_undo cX12_undo 1 (some .int) 6 145 1 6 [.ref (xad x 14 0)] s0 (RI Q) E := by
  refine MetG.of hl (by decide) (Nat.le_of_ble_eq_true rfl) [some (.ref (xad x 14 0))] rfl (fun K B hx _ => ?_)
  subst hx
  unfold wX12_undo at h
  refine g_aload_n (np := 1) B.1 dX12_undo_0 rfl rfl ?_
  refine gf_Y_25_14 (np := 4) B.1 dX12_undo_1 rfl ?_
  refine gc_Y_358 (np := 7) B   (oX4_count B.1.tr     _ _ _ h) (Nat.le_of_ble_eq_true rfl) (Nat.le_of_ble_eq_true rfl) (Nat.le_of_ble_eq_true rfl) (Nat.le_of_ble_eq_true rfl) (Nat.le_of_ble_eq_true rfl) dX12_undo_4 rfl (fun r1 s2 h => ?_)
  refine g_if_ne (np := 10) (tgt := 21) B.1 dX12_undo_7 (by decide) rfl (fun q => ?_) (fun q => ?_)
  · replace h := h.1 q
    refine g_aload_n (np := 22) B.1 dX12_undo_21 rfl rfl ?_
    refine gf_Y_25_14 (np := 25) B.1 dX12_undo_22 rfl ?_
    refine g_aload_n (np := 26) B.1 dX12_undo_25 rfl rfl ?_
    refine gf_Y_10_14 (np := 29) B.1 dX12_undo_26 rfl ?_
    refine gc_Y_361 (np := 32) B   (oX4_takeBack B.1.tr     _ _ _ h) (Nat.le_of_ble_eq_true rfl) (Nat.le_of_ble_eq_true rfl) (Nat.le_of_ble_eq_true rfl) (Nat.le_of_ble_eq_true rfl) (Nat.le_of_ble_eq_true rfl) dX12_undo_29 rfl (fun s4 h => ?_)
    refine g_aload_n (np := 33) B.1 dX12_undo_32 rfl rfl ?_
    refine gf_Y_25_14 (np := 36) B.1 dX12_undo_33 rfl ?_
    refine gc_Y_358 (np := 39) B   (oX4_count B.1.tr     _ _ _ h) (Nat.le_of_ble_eq_true rfl) (Nat.le_of_ble_eq_true rfl) (Nat.le_of_ble_eq_true rfl) (Nat.le_of_ble_eq_true rfl) (Nat.le_of_ble_eq_true rfl) dX12_undo_36 rfl (fun r5 s6 h => ?_)
    exact g_iret B (ty := .int) rfl rfl (Nat.le_of_ble_eq_true rfl) (Nat.le_of_ble_eq_true rfl) dX12_undo_39 ⟨_, rfl, h⟩
  · replace h := h.2 q
    exact g_throwNW B (text := "there is nothing to undo") b_662 b_51 (by decide +kernel) dX12_undo_10 dX12_undo_13 dX12_undo_14 dX12_undo_17 dX12_undo_20 (Nat.le_of_ble_eq_true rfl) (Nat.le_of_ble_eq_true rfl) (Nat.le_of_ble_eq_true rfl) (Nat.le_of_ble_eq_true rfl) h
def wX12_save   (s0 : Mem) (Q : Int32 → Mem → Prop) (E : String → Mem → Prop) : Prop := wX10_copyFrom 2 0  s0 (fun (s2 : Mem) => ∀ s3 : Mem, s3 = wr s2 14 0 3 1 → wX7_size 9  s3 (fun (r4 : Int32) (s5 : Mem) => Q r4 s5) E) E
set_option maxRecDepth 20000 in
set_option maxHeartbeats 4000000 in
theorem oX12_save {l : Launch} {x : Ctx} (hl : l.stackTraces = false)     (s0 : Mem) (Q : Int32 → Mem → Prop) (E : String → Mem → Prop) (h : wX12_save   s0 Q E) : MetG l x yX12_save cX12_save 1 (some .int) 4 123 0 0 [.ref (xad x 14 0)] s0 (RI Q) E := by
  refine MetG.of hl (by decide) (Nat.le_of_ble_eq_true rfl) [some (.ref (xad x 14 0))] rfl (fun K B hx _ => ?_)
  subst hx
  unfold wX12_save at h
  refine g_aload_n (np := 1) B.1 dX12_save_0 rfl rfl ?_
  refine gf_Y_19_14 (np := 4) B.1 dX12_save_1 rfl ?_
  refine g_aload_n (np := 5) B.1 dX12_save_4 rfl rfl ?_
  refine gf_Y_10_14 (np := 8) B.1 dX12_save_5 rfl ?_
  refine gc_Y_339 (np := 11) B 2 0 (by decide : (2 : Nat) < 11) (by decide : (0 : Nat) < 11) (oX10_copyFrom B.1.tr 2 0 (by decide : (2 : Nat) < 11) (by decide : (0 : Nat) < 11)   _ _ _ h) (Nat.le_of_ble_eq_true rfl) (Nat.le_of_ble_eq_true rfl) (Nat.le_of_ble_eq_true rfl) (Nat.le_of_ble_eq_true rfl) (Nat.le_of_ble_eq_true rfl) dX12_save_8 rfl (fun s2 h => ?_)
  refine g_aload_n (np := 12) B.1 dX12_save_11 rfl rfl ?_
  refine g_iconst (np := 13) (v := 1) B.1 dX12_save_12 (by decide) rfl ?_
  refine gp_Y_364_14 (np := 16) B.1 (by decide) dX12_save_13 rfl ?_
  refine g_mem (fun s3 es3 => ?_)
  replace h := h s3 es3
  refine g_aload_n (np := 17) B.1 dX12_save_16 rfl rfl ?_
  refine gf_Y_10_14 (np := 20) B.1 dX12_save_17 rfl ?_
  refine gf_Y_229_4 (np := 23) B.1 0 (by decide : (0 : Nat) < 11) dX12_save_20 rfl ?_
  refine gc_Y_123 (np := 26) B 9 (by decide : (9 : Nat) < 112) (oX7_size B.1.tr 9 (by decide : (9 : Nat) < 112)   _ _ _ h) (Nat.le_of_ble_eq_true rfl) (Nat.le_of_ble_eq_true rfl) (Nat.le_of_ble_eq_true rfl) (Nat.le_of_ble_eq_true rfl) (Nat.le_of_ble_eq_true rfl) dX12_save_23 rfl (fun r4 s5 h => ?_)
  exact g_iret B (ty := .int) rfl rfl (Nat.le_of_ble_eq_true rfl) (Nat.le_of_ble_eq_true rfl) dX12_save_26 ⟨_, rfl, h⟩
def wX12_restore   (s0 : Mem) (Q : Int32 → Mem → Prop) (E : String → Mem → Prop) : Prop := ((¬ rd s0 14 0 3 = 0 → wX10_copyFrom 0 2  s0 (fun (s2 : Mem) => wX4_forget   s2 (fun (s4 : Mem) => wX7_size 9  s4 (fun (r5 : Int32) (s6 : Mem) => Q r5 s6) E) E) E) ∧ (rd s0 14 0 3 = 0 → E "java/lang/IllegalStateException" s0))
set_option maxRecDepth 20000 in
set_option maxHeartbeats 4000000 in
theorem oX12_restore {l : Launch} {x : Ctx} (hl : l.stackTraces = false)     (s0 : Mem) (Q : Int32 → Mem → Prop) (E : String → Mem → Prop) (h : wX12_restore   s0 Q E) : MetG l x yX12_restore cX12_restore 1 (some .int) 6 123 1 6 [.ref (xad x 14 0)] s0 (RI Q) E := by
  refine MetG.of hl (by decide) (Nat.le_of_ble_eq_true rfl) [some (.ref (xad x 14 0))] rfl (fun K B hx _ => ?_)
  subst hx
  unfold wX12_restore at h
  refine g_aload_n (np := 1) B.1 dX12_restore_0 rfl rfl ?_
  refine gf_Y_364_14 (np := 4) B.1 dX12_restore_1 rfl ?_
  refine g_if_ne (np := 7) (tgt := 18) B.1 dX12_restore_4 (by decide) rfl (fun q => ?_) (fun q => ?_)
  · replace h := h.1 q
    refine g_aload_n (np := 19) B.1 dX12_restore_18 rfl rfl ?_
    refine gf_Y_10_14 (np := 22) B.1 dX12_restore_19 rfl ?_
    refine g_aload_n (np := 23) B.1 dX12_restore_22 rfl rfl ?_
    refine gf_Y_19_14 (np := 26) B.1 dX12_restore_23 rfl ?_
    refine gc_Y_339 (np := 29) B 0 2 (by decide : (0 : Nat) < 11) (by decide : (2 : Nat) < 11) (oX10_copyFrom B.1.tr 0 2 (by decide : (0 : Nat) < 11) (by decide : (2 : Nat) < 11)   _ _ _ h) (Nat.le_of_ble_eq_true rfl) (Nat.le_of_ble_eq_true rfl) (Nat.le_of_ble_eq_true rfl) (Nat.le_of_ble_eq_true rfl) (Nat.le_of_ble_eq_true rfl) dX12_restore_26 rfl (fun s2 h => ?_)
    refine g_aload_n (np := 30) B.1 dX12_restore_29 rfl rfl ?_
    refine gf_Y_25_14 (np := 33) B.1 dX12_restore_30 rfl ?_
    refine gc_Y_370 (np := 36) B   (oX4_forget B.1.tr     _ _ _ h) (Nat.le_of_ble_eq_true rfl) (Nat.le_of_ble_eq_true rfl) (Nat.le_of_ble_eq_true rfl) (Nat.le_of_ble_eq_true rfl) (Nat.le_of_ble_eq_true rfl) dX12_restore_33 rfl (fun s4 h => ?_)
    refine g_aload_n (np := 37) B.1 dX12_restore_36 rfl rfl ?_
    refine gf_Y_10_14 (np := 40) B.1 dX12_restore_37 rfl ?_
    refine gf_Y_229_4 (np := 43) B.1 0 (by decide : (0 : Nat) < 11) dX12_restore_40 rfl ?_
    refine gc_Y_123 (np := 46) B 9 (by decide : (9 : Nat) < 112) (oX7_size B.1.tr 9 (by decide : (9 : Nat) < 112)   _ _ _ h) (Nat.le_of_ble_eq_true rfl) (Nat.le_of_ble_eq_true rfl) (Nat.le_of_ble_eq_true rfl) (Nat.le_of_ble_eq_true rfl) (Nat.le_of_ble_eq_true rfl) dX12_restore_43 rfl (fun r5 s6 h => ?_)
    exact g_iret B (ty := .int) rfl rfl (Nat.le_of_ble_eq_true rfl) (Nat.le_of_ble_eq_true rfl) dX12_restore_46 ⟨_, rfl, h⟩
  · replace h := h.2 q
    exact g_throwW B (text := "there is no snapshot") rfl (by decide +kernel) (by decide +kernel) b_630 b_49 (by decide +kernel) at_327 at_327g dX12_restore_7 dX12_restore_10 dX12_restore_11 dX12_restore_14 dX12_restore_17 (by decide) (Nat.le_of_ble_eq_true rfl) (Nat.le_of_ble_eq_true rfl) (Nat.le_of_ble_eq_true rfl) h
