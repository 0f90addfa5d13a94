def wX9_cell  (a1 : Int32) (a2 : Int32) (s0 : Mem) (Q : Int32 → Mem → Prop) (E : String → Mem → Prop) : Prop := Q ((a1 * 12) + a2) s0
set_option maxRecDepth 20000 in
set_option maxHeartbeats 4000000 in
theorem oX9_cell {l : Launch} {x : Ctx} (hl : l.stackTraces = false)   (a1 : Int32) (a2 : Int32)  (s0 : Mem) (Q : Int32 → Mem → Prop) (E : String → Mem → Prop) (h : wX9_cell  a1 a2 s0 Q E) : MetG l x yX9_cell cX9_cell 2 (some .int) 0 0 0 0 [.int a1, .int a2] s0 (RI Q) E := by
  refine MetG.of hl (by decide) (Nat.le_of_ble_eq_true rfl) [some (.int a1), some (.int a2)] rfl (fun K B hx _ => ?_)
  subst hx
  unfold wX9_cell at h
  refine g_iload_n (np := 1) B.1 dX9_cell_0 rfl rfl ?_
  refine g_bipush (np := 3) (v := 12) B.1 dX9_cell_1 (by decide) rfl ?_
  refine g_imul (np := 4) B.1 dX9_cell_3 rfl ?_
  refine g_iload_n (np := 5) B.1 dX9_cell_4 rfl rfl ?_
  refine g_iadd (np := 6) B.1 dX9_cell_5 rfl ?_
  exact g_iret B (ty := .int) rfl rfl (Nat.le_of_ble_eq_true rfl) (Nat.le_of_ble_eq_true rfl) dX9_cell_6 ⟨_, rfl, h⟩
def wX9_lastSplice  (a1 : Int32) (a2 : Int32) (a3 : Int32) (s0 : Mem) (Q : Int32 → Mem → Prop) (E : String → Mem → Prop) : Prop := Q (a1 - ((a3 - a2) - 1)) s0
set_option maxRecDepth 20000 in
set_option maxHeartbeats 4000000 in
theorem oX9_lastSplice {l : Launch} {x : Ctx} (hl : l.stackTraces = false)   (a1 : Int32) (a2 : Int32) (a3 : Int32)  (s0 : Mem) (Q : Int32 → Mem → Prop) (E : String → Mem → Prop) (h : wX9_lastSplice  a1 a2 a3 s0 Q E) : MetG l x yX9_lastSplice cX9_lastSplice 3 (some .int) 0 0 0 0 [.int a1, .int a2, .int a3] s0 (RI Q) E := by
  refine MetG.of hl (by decide) (Nat.le_of_ble_eq_true rfl) [some (.int a1), some (.int a2), some (.int a3)] rfl (fun K B hx _ => ?_)
  subst hx
  unfold wX9_lastSplice at h
  refine g_iload_n (np := 1) B.1 dX9_lastSplice_0 rfl rfl ?_
  refine g_iload_n (np := 2) B.1 dX9_lastSplice_1 rfl rfl ?_
  refine g_iload_n (np := 3) B.1 dX9_lastSplice_2 rfl rfl ?_
  refine g_isub (np := 4) B.1 dX9_lastSplice_3 rfl ?_
  refine g_iconst (np := 5) (v := 1) B.1 dX9_lastSplice_4 (by decide) rfl ?_
  refine g_isub (np := 6) B.1 dX9_lastSplice_5 rfl ?_
  refine g_isub (np := 7) B.1 dX9_lastSplice_6 rfl ?_
  exact g_iret B (ty := .int) rfl rfl (Nat.le_of_ble_eq_true rfl) (Nat.le_of_ble_eq_true rfl) dX9_lastSplice_7 ⟨_, rfl, h⟩
def wX9_leastOfTable_6   (Q : Int32 → Mem → Prop) (E : String → Mem → Prop)  (X48 : Int32 → Mem → Prop) : Nat → Int32 → Int32 → Int32 → Int32 → Mem → Prop
  | 0, _, _, _, _, _ => False
  | n6 + 1, v1, v2, v3, v4, s0 => ((v2 ≤ v4 → X48 v3 s0) ∧ (¬ v2 ≤ v4 → wX9_cell  v1 v4 s0 (fun (r1 : Int32) (s2 : Mem) => vp_in r1 (iaLen 5) ∧ wX9_cell  (v4 + 1) v2 s2 (fun (r3 : Int32) (s4 : Mem) => vp_in r3 (iaLen 5) ∧ ∀ v3_5 : Int32, v3_5 = (if ((rd s2 10 5 r1.toNatClampNeg) + (rd s4 10 5 r3.toNatClampNeg)) < v3 then ((rd s2 10 5 r1.toNatClampNeg) + (rd s4 10 5 r3.toNatClampNeg)) else v3) → ∀ v4_6 : Int32, v4_6 = (v4 + 1) → wX9_leastOfTable_6   Q E X48 n6 v1 v2 v3_5 v4_6 s4) E) E))
def wX9_leastOfTable  (a1 : Int32) (a2 : Int32) (s0 : Mem) (Q : Int32 → Mem → Prop) (E : String → Mem → Prop) : Prop := ∃ m9 : Nat, wX9_leastOfTable_6   Q E (fun (x3_7 : Int32) (s8 : Mem) => Q x3_7 s8) m9 a1 a2 2147483647 a1  s0
set_option maxRecDepth 20000 in
set_option maxHeartbeats 4000000 in
theorem oX9_leastOfTable_6 {K : Fr} {Q : Int32 → Mem → Prop} {E : String → Mem → Prop} (B : Bd K cX9_leastOfTable "YarnMill$SpliceFinder" 5 (some .int) 1 21 0 0 (RI Q) E)    {X48 : Int32 → Mem → Prop} {cells slots : Nat} (hX48 : ∀ (y3 : Int32) (τ : Mem), X48 y3 τ → Go K cells slots τ 48 [none, none, none, some (.int y3), none] ([])) (hc : cells ≤ 0) (hs : slots ≤ 0) : ∀ (n : Nat) (v1 : Int32) (v2 : Int32) (v3 : Int32) (v4 : Int32) (s0 : Mem), wX9_leastOfTable_6   Q E X48 n v1 v2 v3 v4 s0 → Go K cells slots s0 6 [some (.ref (xad (fX K) 9 0)), some (.int v1), some (.int v2), some (.int v3), some (.int v4)] ([]) := by
  intro n
  induction n with
  | zero => intro v1 v2 v3 v4 s0 h; exact absurd h (by simp [wX9_leastOfTable_6])
  | succ n ih =>
    intro v1 v2 v3 v4 s0 h
    simp only [wX9_leastOfTable_6] at h
    refine g_iload (np := 8) B.1 dX9_leastOfTable_6 rfl rfl ?_
    refine g_iload_n (np := 9) B.1 dX9_leastOfTable_8 rfl rfl ?_
    refine g_icmp_ge (np := 12) (tgt := 48) B.1 dX9_leastOfTable_9 (by decide) rfl (fun q => ?_) (fun q => ?_)
    · replace h := h.1 q
      refine Go.lle [none, none, none, some (.int v3), none] (by simp [lle]) ?_
      exact hX48 v3 s0 h
    · replace h := h.2 q
      refine g_iload_n (np := 13) B.1 dX9_leastOfTable_12 rfl rfl ?_
      refine g_aload_n (np := 14) B.1 dX9_leastOfTable_13 rfl rfl ?_
      refine gf_YSpliceFinder_9_9 (np := 17) B.1 dX9_leastOfTable_14 rfl ?_
      refine g_iload_n (np := 18) B.1 dX9_leastOfTable_17 rfl rfl ?_
      refine g_iload (np := 20) B.1 dX9_leastOfTable_18 rfl rfl ?_
      refine gc_YSpliceFinder_28 (np := 23) B   (oX9_cell B.1.tr   v1 v4  _ _ _ h) (Nat.le_of_ble_eq_true rfl) (Nat.le_of_ble_eq_true rfl) (Nat.le_of_ble_eq_true rfl) hc hs dX9_leastOfTable_20 rfl (fun r1 s2 h => ?_)
      refine g_iald (np := 24) B.1 10 5 (by decide : (5 : Nat) < 8) rfl rfl h.1 dX9_leastOfTable_23 rfl ?_
      replace h := h.2
      refine g_aload_n (np := 25) B.1 dX9_leastOfTable_24 rfl rfl ?_
      refine gf_YSpliceFinder_9_9 (np := 28) B.1 dX9_leastOfTable_25 rfl ?_
      refine g_iload (np := 30) B.1 dX9_leastOfTable_28 rfl rfl ?_
      refine g_iconst (np := 31) (v := 1) B.1 dX9_leastOfTable_30 (by decide) rfl ?_
      refine g_iadd (np := 32) B.1 dX9_leastOfTable_31 rfl ?_
      refine g_iload_n (np := 33) B.1 dX9_leastOfTable_32 rfl rfl ?_
      refine gc_YSpliceFinder_28 (np := 36) B   (oX9_cell B.1.tr   (v4 + 1) v2  _ _ _ h) (Nat.le_of_ble_eq_true rfl) (Nat.le_of_ble_eq_true rfl) (Nat.le_of_ble_eq_true rfl) hc hs dX9_leastOfTable_33 rfl (fun r3 s4 h => ?_)
      refine g_iald (np := 37) B.1 10 5 (by decide : (5 : Nat) < 8) rfl rfl h.1 dX9_leastOfTable_36 rfl ?_
      replace h := h.2
      refine g_iadd (np := 38) B.1 dX9_leastOfTable_37 rfl ?_
      refine g_mmin (np := 41) B.1 b_778 b_155 b_30 b_156 (by rw [B.2.1]; exact Nat.le_of_ble_eq_true rfl) (by rw [B.2.1]; exact Nat.le_of_ble_eq_true rfl) (by rw [B.2.1]; exact hc) (by rw [B.2.1]; exact hs) dX9_leastOfTable_38 rfl ?_
      refine g_topi (fun v3_5 ev3_5 => ?_)
      replace h := h v3_5 ev3_5
      refine g_istore_n (np := 42) (lv' := [some (.ref (xad (fX K) 9 0)), some (.int v1), some (.int v2), some (.int v3_5), some (.int v4)]) B.1 dX9_leastOfTable_41 (by decide) rfl rfl rfl ?_
      obtain ⟨v4_6, ev4_6⟩ : ∃ y : Int32, y = v4 + 1 := ⟨_, rfl⟩
      replace h := h v4_6 ev4_6
      refine g_iinc (np := 45) (v := v4_6) (lv' := [some (.ref (xad (fX K) 9 0)), some (.int v1), some (.int v2), some (.int v3_5), some (.int v4_6)]) B.1 dX9_leastOfTable_42 rfl (by rw [ev4_6]; rfl) (by decide) rfl rfl rfl ?_
      refine g_goto (tgt := 6) B.1 dX9_leastOfTable_45 (by decide) ?_
      refine Go.lle [some (.ref (xad (fX K) 9 0)), some (.int v1), some (.int v2), some (.int v3_5), some (.int v4_6)] (by simp [lle]) ?_
      exact ih v1 v2 v3_5 v4_6 s4 h
set_option maxRecDepth 20000 in
set_option maxHeartbeats 4000000 in
theorem oX9_leastOfTable {l : Launch} {x : Ctx} (hl : l.stackTraces = false)   (a1 : Int32) (a2 : Int32)  (s0 : Mem) (Q : Int32 → Mem → Prop) (E : String → Mem → Prop) (h : wX9_leastOfTable  a1 a2 s0 Q E) : MetG l x yX9_leastOfTable cX9_leastOfTable 5 (some .int) 1 21 0 0 [.ref (xad x 9 0), .int a1, .int a2] s0 (RI Q) E := by
  refine MetG.of hl (by decide) (Nat.le_of_ble_eq_true rfl) [some (.ref (xad x 9 0)), some (.int a1), some (.int a2), none, none] rfl (fun K B hx _ => ?_)
  subst hx
  unfold wX9_leastOfTable at h
  refine g_ldc (np := 2) (v := 2147483647) B.1 b_777 dX9_leastOfTable_0 rfl ?_
  refine g_istore_n (np := 3) (lv' := [some (.ref (xad (fX K) 9 0)), some (.int a1), some (.int a2), some (.int 2147483647), none]) B.1 dX9_leastOfTable_2 (by decide) rfl rfl rfl ?_
  refine g_iload_n (np := 4) B.1 dX9_leastOfTable_3 rfl rfl ?_
  refine g_istore (np := 6) (lv' := [some (.ref (xad (fX K) 9 0)), some (.int a1), some (.int a2), some (.int 2147483647), some (.int a1)]) B.1 dX9_leastOfTable_4 (by decide) rfl rfl rfl ?_
  obtain ⟨m9, h⟩ := h
  refine Go.lle [some (.ref (xad (fX K) 9 0)), some (.int a1), some (.int a2), some (.int 2147483647), some (.int a1)] (by simp [lle]) ?_
  refine oX9_leastOfTable_6 B    (fun x3_7 s8 h => ?_) (Nat.le_of_ble_eq_true rfl) (Nat.le_of_ble_eq_true rfl) m9 a1 a2 2147483647 a1  s0 h
  refine g_iload_n (np := 49) B.1 dX9_leastOfTable_48 rfl rfl ?_
  exact g_iret B (ty := .int) rfl rfl (Nat.le_of_ble_eq_true rfl) (Nat.le_of_ble_eq_true rfl) dX9_leastOfTable_49 ⟨_, rfl, h⟩
def wX9_costByTable_36   (Q : Int32 → Mem → Prop) (E : String → Mem → Prop)  (X86 : Int32 → Int32 → Mem → Prop) : Nat → Int32 → Int32 → Int32 → Int32 → Mem → Prop
  | 0, _, _, _, _, _ => False
  | n36 + 1, v2, v3, v4, v5, s0 => ((v2 ≤ v5 → X86 v2 v3 s0) ∧ (¬ v2 ≤ v5 → wX7_get 9 v5 s0 (fun (r10 : Int32) (s11 : Mem) => ∀ v4_12 : Int32, v4_12 = (v4 + r10) → wX9_cell  v3 v5 s11 (fun (r13 : Int32) (s14 : Mem) => wX9_leastOfTable  v3 v5 s14 (fun (r15 : Int32) (s16 : Mem) => wX9_lastSplice  v4_12 v3 v5 s16 (fun (r17 : Int32) (s18 : Mem) => vp_in r13 (iaLen 5) ∧ ∀ s19 : Mem, s19 = wr s18 10 5 r13.toNatClampNeg (r15 + r17) → ∀ v5_20 : Int32, v5_20 = (v5 + 1) → wX9_costByTable_36   Q E X86 n36 v2 v3 v4_12 v5_20 s19) E) E) E) E))
def wX9_costByTable_9   (Q : Int32 → Mem → Prop) (E : String → Mem → Prop)  (X92 : Int32 → Mem → Prop) : Nat → Int32 → Int32 → Mem → Prop
  | 0, _, _, _ => False
  | n9 + 1, v2, v3, s0 => ((v3 < 0 → X92 v2 s0) ∧ (¬ v3 < 0 → wX7_get 9 v3 s0 (fun (r4 : Int32) (s5 : Mem) => wX9_cell  v3 v3 s5 (fun (r6 : Int32) (s7 : Mem) => vp_in r6 (iaLen 5) ∧ ∀ s8 : Mem, s8 = wr s7 10 5 r6.toNatClampNeg 0 → ∀ v5_9 : Int32, v5_9 = (v3 + 1) → ∃ m25 : Nat, wX9_costByTable_36   Q E (fun (x2_21 : Int32) (x3_22 : Int32) (s23 : Mem) => ∀ v3_24 : Int32, v3_24 = (x3_22 + (-1)) → wX9_costByTable_9   Q E X92 n9 x2_21 v3_24 s23) m25 v2 v3 r4 v5_9  s8) E) E))
def wX9_costByTable   (s0 : Mem) (Q : Int32 → Mem → Prop) (E : String → Mem → Prop) : Prop := wX7_size 9  s0 (fun (r1 : Int32) (s2 : Mem) => ∀ v3_3 : Int32, v3_3 = (r1 - 1) → ∃ m30 : Nat, wX9_costByTable_9   Q E (fun (x2_26 : Int32) (s27 : Mem) => ((2 ≤ x2_26 → wX9_cell  0 (x2_26 - 1) s27 (fun (r28 : Int32) (s29 : Mem) => vp_in r28 (iaLen 5) ∧ Q (rd s29 10 5 r28.toNatClampNeg) s29) E) ∧ (¬ 2 ≤ x2_26 → Q 0 s27))) m30 r1 v3_3  s2) E
set_option maxRecDepth 20000 in
set_option maxHeartbeats 4000000 in
theorem oX9_costByTable_36 {K : Fr} {Q : Int32 → Mem → Prop} {E : String → Mem → Prop} (B : Bd K cX9_costByTable "YarnMill$SpliceFinder" 6 (some .int) 2 45 0 0 (RI Q) E)    {X86 : Int32 → Int32 → Mem → Prop} {cells slots : Nat} (hX86 : ∀ (y2 : Int32) (y3 : Int32) (τ : Mem), X86 y2 y3 τ → Go K cells slots τ 86 [some (.ref (xad (fX K) 9 0)), some (.ref (xad (fX K) 0 9)), some (.int y2), some (.int y3), none, none] ([])) (hc : cells ≤ 0) (hs : slots ≤ 0) : ∀ (n : Nat) (v2 : Int32) (v3 : Int32) (v4 : Int32) (v5 : Int32) (s0 : Mem), wX9_costByTable_36   Q E X86 n v2 v3 v4 v5 s0 → Go K cells slots s0 36 [some (.ref (xad (fX K) 9 0)), some (.ref (xad (fX K) 0 9)), some (.int v2), some (.int v3), some (.int v4), some (.int v5)] ([]) := by
  intro n
  induction n with
  | zero => intro v2 v3 v4 v5 s0 h; exact absurd h (by simp [wX9_costByTable_36])
  | succ n ih =>
    intro v2 v3 v4 v5 s0 h
    simp only [wX9_costByTable_36] at h
    refine g_iload (np := 38) B.1 dX9_costByTable_36 rfl rfl ?_
    refine g_iload_n (np := 39) B.1 dX9_costByTable_38 rfl rfl ?_
    refine g_icmp_ge (np := 42) (tgt := 86) B.1 dX9_costByTable_39 (by decide) rfl (fun q => ?_) (fun q => ?_)
    · replace h := h.1 q
      refine Go.lle [some (.ref (xad (fX K) 9 0)), some (.ref (xad (fX K) 0 9)), some (.int v2), some (.int v3), none, none] (by simp [lle]) ?_
      exact hX86 v2 v3 s0 h
    · replace h := h.2 q
      refine g_iload (np := 44) B.1 dX9_costByTable_42 rfl rfl ?_
      refine g_aload_n (np := 45) B.1 dX9_costByTable_44 rfl rfl ?_
      refine g_iload (np := 47) B.1 dX9_costByTable_45 rfl rfl ?_
      refine gc_YSpliceFinder_24 (np := 50) B 9 (by decide : (9 : Nat) < 112) (oX7_get B.1.tr 9 (by decide : (9 : Nat) < 112) v5  _ _ _ h) (Nat.le_of_ble_eq_true rfl) (Nat.le_of_ble_eq_true rfl) (Nat.le_of_ble_eq_true rfl) hc hs dX9_costByTable_47 rfl (fun r10 s11 h => ?_)
      refine g_iadd (np := 51) B.1 dX9_costByTable_50 rfl ?_
      refine g_topi (fun v4_12 ev4_12 => ?_)
      replace h := h v4_12 ev4_12
      refine g_istore (np := 53) (lv' := [some (.ref (xad (fX K) 9 0)), some (.ref (xad (fX K) 0 9)), some (.int v2), some (.int v3), some (.int v4_12), some (.int v5)]) B.1 dX9_costByTable_51 (by decide) rfl rfl rfl ?_
      refine g_aload_n (np := 54) B.1 dX9_costByTable_53 rfl rfl ?_
      refine gf_YSpliceFinder_9_9 (np := 57) B.1 dX9_costByTable_54 rfl ?_
      refine g_iload_n (np := 58) B.1 dX9_costByTable_57 rfl rfl ?_
      refine g_iload (np := 60) B.1 dX9_costByTable_58 rfl rfl ?_
      refine gc_YSpliceFinder_28 (np := 63) B   (oX9_cell B.1.tr   v3 v5  _ _ _ h) (Nat.le_of_ble_eq_true rfl) (Nat.le_of_ble_eq_true rfl) (Nat.le_of_ble_eq_true rfl) hc hs dX9_costByTable_60 rfl (fun r13 s14 h => ?_)
      refine g_aload_n (np := 64) B.1 dX9_costByTable_63 rfl rfl ?_
      refine g_iload_n (np := 65) B.1 dX9_costByTable_64 rfl rfl ?_
      refine g_iload (np := 67) B.1 dX9_costByTable_65 rfl rfl ?_
      refine gc_YSpliceFinder_32 (np := 70) B   (oX9_leastOfTable B.1.tr   v3 v5  _ _ _ h) (Nat.le_of_ble_eq_true rfl) (Nat.le_of_ble_eq_true rfl) (Nat.le_of_ble_eq_true rfl) hc hs dX9_costByTable_67 rfl (fun r15 s16 h => ?_)
      refine g_iload (np := 72) B.1 dX9_costByTable_70 rfl rfl ?_
      refine g_iload_n (np := 73) B.1 dX9_costByTable_72 rfl rfl ?_
      refine g_iload (np := 75) B.1 dX9_costByTable_73 rfl rfl ?_
      refine gc_YSpliceFinder_35 (np := 78) B   (oX9_lastSplice B.1.tr   v4_12 v3 v5  _ _ _ h) (Nat.le_of_ble_eq_true rfl) (Nat.le_of_ble_eq_true rfl) (Nat.le_of_ble_eq_true rfl) hc hs dX9_costByTable_75 rfl (fun r17 s18 h => ?_)
      refine g_iadd (np := 79) B.1 dX9_costByTable_78 rfl ?_
      refine g_iast (np := 80) B.1 10 5 (by decide : (5 : Nat) < 8) rfl (fun _ _ => rfl) h.1 dX9_costByTable_79 rfl ?_
      replace h := h.2
      refine g_mem (fun s19 es19 => ?_)
      replace h := h s19 es19
      obtain ⟨v5_20, ev5_20⟩ : ∃ y : Int32, y = v5 + 1 := ⟨_, rfl⟩
      replace h := h v5_20 ev5_20
      refine g_iinc (np := 83) (v := v5_20) (lv' := [some (.ref (xad (fX K) 9 0)), some (.ref (xad (fX K) 0 9)), some (.int v2), some (.int v3), some (.int v4_12), some (.int v5_20)]) B.1 dX9_costByTable_80 rfl (by rw [ev5_20]; rfl) (by decide) rfl rfl rfl ?_
      refine g_goto (tgt := 36) B.1 dX9_costByTable_83 (by decide) ?_
      refine Go.lle [some (.ref (xad (fX K) 9 0)), some (.ref (xad (fX K) 0 9)), some (.int v2), some (.int v3), some (.int v4_12), some (.int v5_20)] (by simp [lle]) ?_
      exact ih v2 v3 v4_12 v5_20 s19 h
set_option maxRecDepth 20000 in
set_option maxHeartbeats 4000000 in
theorem oX9_costByTable_9 {K : Fr} {Q : Int32 → Mem → Prop} {E : String → Mem → Prop} (B : Bd K cX9_costByTable "YarnMill$SpliceFinder" 6 (some .int) 2 45 0 0 (RI Q) E)    {X92 : Int32 → Mem → Prop} {cells slots : Nat} (hX92 : ∀ (y2 : Int32) (τ : Mem), X92 y2 τ → Go K cells slots τ 92 [some (.ref (xad (fX K) 9 0)), none, some (.int y2), none, none, none] ([])) (hc : cells ≤ 0) (hs : slots ≤ 0) : ∀ (n : Nat) (v2 : Int32) (v3 : Int32) (s0 : Mem), wX9_costByTable_9   Q E X92 n v2 v3 s0 → Go K cells slots s0 9 [some (.ref (xad (fX K) 9 0)), some (.ref (xad (fX K) 0 9)), some (.int v2), some (.int v3), none, none] ([]) := by
  intro n
  induction n with
  | zero => intro v2 v3 s0 h; exact absurd h (by simp [wX9_costByTable_9])
  | succ n ih =>
    intro v2 v3 s0 h
    simp only [wX9_costByTable_9] at h
    refine g_iload_n (np := 10) B.1 dX9_costByTable_9 rfl rfl ?_
    refine g_if_lt (np := 13) (tgt := 92) B.1 dX9_costByTable_10 (by decide) rfl (fun q => ?_) (fun q => ?_)
    · replace h := h.1 q
      refine Go.lle [some (.ref (xad (fX K) 9 0)), none, some (.int v2), none, none, none] (by simp [lle]) ?_
      exact hX92 v2 s0 h
    · replace h := h.2 q
      refine g_aload_n (np := 14) B.1 dX9_costByTable_13 rfl rfl ?_
      refine g_iload_n (np := 15) B.1 dX9_costByTable_14 rfl rfl ?_
      refine gc_YSpliceFinder_24 (np := 18) B 9 (by decide : (9 : Nat) < 112) (oX7_get B.1.tr 9 (by decide : (9 : Nat) < 112) v3  _ _ _ h) (Nat.le_of_ble_eq_true rfl) (Nat.le_of_ble_eq_true rfl) (Nat.le_of_ble_eq_true rfl) hc hs dX9_costByTable_15 rfl (fun r4 s5 h => ?_)
      refine g_istore (np := 20) (lv' := [some (.ref (xad (fX K) 9 0)), some (.ref (xad (fX K) 0 9)), some (.int v2), some (.int v3), some (.int r4), none]) B.1 dX9_costByTable_18 (by decide) rfl rfl rfl ?_
      refine g_aload_n (np := 21) B.1 dX9_costByTable_20 rfl rfl ?_
      refine gf_YSpliceFinder_9_9 (np := 24) B.1 dX9_costByTable_21 rfl ?_
      refine g_iload_n (np := 25) B.1 dX9_costByTable_24 rfl rfl ?_
      refine g_iload_n (np := 26) B.1 dX9_costByTable_25 rfl rfl ?_
      refine gc_YSpliceFinder_28 (np := 29) B   (oX9_cell B.1.tr   v3 v3  _ _ _ h) (Nat.le_of_ble_eq_true rfl) (Nat.le_of_ble_eq_true rfl) (Nat.le_of_ble_eq_true rfl) hc hs dX9_costByTable_26 rfl (fun r6 s7 h => ?_)
      refine g_iconst (np := 30) (v := 0) B.1 dX9_costByTable_29 (by decide) rfl ?_
      refine g_iast (np := 31) B.1 10 5 (by decide : (5 : Nat) < 8) rfl (fun _ _ => rfl) h.1 dX9_costByTable_30 rfl ?_
      replace h := h.2
      refine g_mem (fun s8 es8 => ?_)
      replace h := h s8 es8
      refine g_iload_n (np := 32) B.1 dX9_costByTable_31 rfl rfl ?_
      refine g_iconst (np := 33) (v := 1) B.1 dX9_costByTable_32 (by decide) rfl ?_
      refine g_iadd (np := 34) B.1 dX9_costByTable_33 rfl ?_
      refine g_topi (fun v5_9 ev5_9 => ?_)
      replace h := h v5_9 ev5_9
      refine g_istore (np := 36) (lv' := [some (.ref (xad (fX K) 9 0)), some (.ref (xad (fX K) 0 9)), some (.int v2), some (.int v3), some (.int r4), some (.int v5_9)]) B.1 dX9_costByTable_34 (by decide) rfl rfl rfl ?_
      obtain ⟨m25, h⟩ := h
      refine Go.lle [some (.ref (xad (fX K) 9 0)), some (.ref (xad (fX K) 0 9)), some (.int v2), some (.int v3), some (.int r4), some (.int v5_9)] (by simp [lle]) ?_
      refine oX9_costByTable_36 B    (fun x2_21 x3_22 s23 h => ?_) hc hs m25 v2 v3 r4 v5_9  s8 h
      obtain ⟨v3_24, ev3_24⟩ : ∃ y : Int32, y = x3_22 + (-1) := ⟨_, rfl⟩
      replace h := h v3_24 ev3_24
      refine g_iinc (np := 89) (v := v3_24) (lv' := [some (.ref (xad (fX K) 9 0)), some (.ref (xad (fX K) 0 9)), some (.int x2_21), some (.int v3_24), none, none]) B.1 dX9_costByTable_86 rfl (by rw [ev3_24]; rfl) (by decide) rfl rfl rfl ?_
      refine g_goto (tgt := 9) B.1 dX9_costByTable_89 (by decide) ?_
      refine Go.lle [some (.ref (xad (fX K) 9 0)), some (.ref (xad (fX K) 0 9)), some (.int x2_21), some (.int v3_24), none, none] (by simp [lle]) ?_
      exact ih x2_21 v3_24 s23 h
set_option maxRecDepth 20000 in
set_option maxHeartbeats 4000000 in
theorem oX9_costByTable {l : Launch} {x : Ctx} (hl : l.stackTraces = false)     (s0 : Mem) (Q : Int32 → Mem → Prop) (E : String → Mem → Prop) (h : wX9_costByTable   s0 Q E) : MetG l x yX9_costByTable cX9_costByTable 6 (some .int) 2 45 0 0 [.ref (xad x 9 0), .ref (xad x 0 9)] s0 (RI Q) E := by
  refine MetG.of hl (by decide) (Nat.le_of_ble_eq_true rfl) [some (.ref (xad x 9 0)), some (.ref (xad x 0 9)), none, none, none, none] rfl (fun K B hx _ => ?_)
  subst hx
  unfold wX9_costByTable at h
  refine g_aload_n (np := 1) B.1 dX9_costByTable_0 rfl rfl ?_
  refine gc_YSpliceFinder_18 (np := 4) B 9 (by decide : (9 : Nat) < 112) (oX7_size B.1.tr 9 (by decide : (9 : Nat) < 112)   _ _ _ h) (Nat.le_of_ble_eq_true rfl) (Nat.le_of_ble_eq_true rfl) (Nat.le_of_ble_eq_true rfl) (Nat.le_of_ble_eq_true rfl) (Nat.le_of_ble_eq_true rfl) dX9_costByTable_1 rfl (fun r1 s2 h => ?_)
  refine g_istore_n (np := 5) (lv' := [some (.ref (xad (fX K) 9 0)), some (.ref (xad (fX K) 0 9)), some (.int r1), none, none, none]) B.1 dX9_costByTable_4 (by decide) rfl rfl rfl ?_
  refine g_iload_n (np := 6) B.1 dX9_costByTable_5 rfl rfl ?_
  refine g_iconst (np := 7) (v := 1) B.1 dX9_costByTable_6 (by decide) rfl ?_
  refine g_isub (np := 8) B.1 dX9_costByTable_7 rfl ?_
  refine g_topi (fun v3_3 ev3_3 => ?_)
  replace h := h v3_3 ev3_3
  refine g_istore_n (np := 9) (lv' := [some (.ref (xad (fX K) 9 0)), some (.ref (xad (fX K) 0 9)), some (.int r1), some (.int v3_3), none, none]) B.1 dX9_costByTable_8 (by decide) rfl rfl rfl ?_
  obtain ⟨m30, h⟩ := h
  refine Go.lle [some (.ref (xad (fX K) 9 0)), some (.ref (xad (fX K) 0 9)), some (.int r1), some (.int v3_3), none, none] (by simp [lle]) ?_
  refine oX9_costByTable_9 B    (fun x2_26 s27 h => ?_) (Nat.le_of_ble_eq_true rfl) (Nat.le_of_ble_eq_true rfl) m30 r1 v3_3  s2 h
  refine g_iload_n (np := 93) B.1 dX9_costByTable_92 rfl rfl ?_
  refine g_iconst (np := 94) (v := 2) B.1 dX9_costByTable_93 (by decide) rfl ?_
  refine g_icmp_ge (np := 97) (tgt := 101) B.1 dX9_costByTable_94 (by decide) rfl (fun q => ?_) (fun q => ?_)
  · replace h := h.1 q
    refine g_aload_n (np := 102) B.1 dX9_costByTable_101 rfl rfl ?_
    refine gf_YSpliceFinder_9_9 (np := 105) B.1 dX9_costByTable_102 rfl ?_
    refine g_iconst (np := 106) (v := 0) B.1 dX9_costByTable_105 (by decide) rfl ?_
    refine g_iload_n (np := 107) B.1 dX9_costByTable_106 rfl rfl ?_
    refine g_iconst (np := 108) (v := 1) B.1 dX9_costByTable_107 (by decide) rfl ?_
    refine g_isub (np := 109) B.1 dX9_costByTable_108 rfl ?_
    refine gc_YSpliceFinder_28 (np := 112) B   (oX9_cell B.1.tr   0 (x2_26 - 1)  _ _ _ h) (Nat.le_of_ble_eq_true rfl) (Nat.le_of_ble_eq_true rfl) (Nat.le_of_ble_eq_true rfl) (Nat.le_of_ble_eq_true rfl) (Nat.le_of_ble_eq_true rfl) dX9_costByTable_109 rfl (fun r28 s29 h => ?_)
    refine g_iald (np := 113) B.1 10 5 (by decide : (5 : Nat) < 8) rfl rfl h.1 dX9_costByTable_112 rfl ?_
    replace h := h.2
    exact g_iret B (ty := .int) rfl rfl (Nat.le_of_ble_eq_true rfl) (Nat.le_of_ble_eq_true rfl) dX9_costByTable_113 ⟨_, rfl, h⟩
  · replace h := h.2 q
    refine g_iconst (np := 98) (v := 0) B.1 dX9_costByTable_97 (by decide) rfl ?_
    refine g_goto (tgt := 113) B.1 dX9_costByTable_98 (by decide) ?_
    exact g_iret B (ty := .int) rfl rfl (Nat.le_of_ble_eq_true rfl) (Nat.le_of_ble_eq_true rfl) dX9_costByTable_113 ⟨_, rfl, h⟩
def wX9_divide_40   (Q : Int32 → Mem → Prop) (E : String → Mem → Prop) (W : Int32 → Int32 → Mem → (Int32 → Mem → Prop) → Prop) (X93 : Int32 → Int32 → Int32 → Int32 → Mem → Prop) : Nat → Int32 → Int32 → Int32 → Int32 → Int32 → Mem → Prop
  | 0, _, _, _, _, _, _ => False
  | n40 + 1, v2, v3, v4, v5, v6, s0 => ((v3 ≤ v6 → X93 v2 v3 v4 v5 s0) ∧ (¬ v3 ≤ v6 → W v2 v6 s0 (fun (r5 : Int32) (s6 : Mem) => W (v6 + 1) v3 s6 (fun (r7 : Int32) (s8 : Mem) => ∀ v7_9 : Int32, v7_9 = (r5 + r7) → ∀ v4_10 : Int32, v4_10 = (if v7_9 < v4 then v7_9 else v4) → wX7_get 9 v6 s8 (fun (r11 : Int32) (s12 : Mem) => ∀ v5_13 : Int32, v5_13 = (v5 + r11) → ∀ v6_14 : Int32, v6_14 = (v6 + 1) → wX9_divide_40   Q E W X93 n40 v2 v3 v4_10 v5_13 v6_14 s12) E))))
def wX9_divide : Nat → Int32 → Int32 → Mem → (Int32 → Mem → Prop) → (String → Mem → Prop) → Prop
  | 0, _, _, _, _, _ => False
  | d + 1, a3, a4, s0, Q, E => ((a3 < a4 → wX9_cell  a3 a4 s0 (fun (r1 : Int32) (s2 : Mem) => vp_in r1 (iaLen 6) ∧ ((rd s2 10 6 r1.toNatClampNeg = (-1) → wX7_get 9 a4 s2 (fun (r3 : Int32) (s4 : Mem) => ∃ m27 : Nat, wX9_divide_40   Q E (fun a3_ a4_ τ Q2 => wX9_divide d a3_ a4_ τ Q2 E) (fun (x2_15 : Int32) (x3_16 : Int32) (x4_17 : Int32) (x5_18 : Int32) (s19 : Mem) => wX9_cell  x2_15 x3_16 s19 (fun (r20 : Int32) (s21 : Mem) => wX9_lastSplice  x5_18 x2_15 x3_16 s21 (fun (r22 : Int32) (s23 : Mem) => vp_in r20 (iaLen 6) ∧ ∀ s24 : Mem, s24 = wr s23 10 6 r20.toNatClampNeg (x4_17 + r22) → wX9_cell  x2_15 x3_16 s24 (fun (r25 : Int32) (s26 : Mem) => vp_in r25 (iaLen 6) ∧ Q (rd s26 10 6 r25.toNatClampNeg) s26) E) E) E) m27 a3 a4 2147483647 r3 a3  s4) E) ∧ (¬ rd s2 10 6 r1.toNatClampNeg = (-1) → wX9_cell  a3 a4 s2 (fun (r28 : Int32) (s29 : Mem) => vp_in r28 (iaLen 6) ∧ Q (rd s29 10 6 r28.toNatClampNeg) s29) E))) E) ∧ (¬ a3 < a4 → Q 0 s0))
set_option maxRecDepth 20000 in
set_option maxHeartbeats 4000000 in
theorem oX9_divide_40 {d : Nat} {K : Fr} {Q : Int32 → Mem → Prop} {E : String → Mem → Prop} (B : Bd K cX9_divide "YarnMill$SpliceFinder" 8 (some .int) (1 + (d + 1)) (22 + (d + 1) * 27) 0 0 (RI Q) E)    {W : Int32 → Int32 → Mem → (Int32 → Mem → Prop) → Prop} (hW : ∀ (a3 : Int32) (a4 : Int32) (τ : Mem) (Q2 : Int32 → Mem → Prop), W a3 a4 τ Q2 → MetG (fL K) (fX K) yX9_divide cX9_divide 8 (some .int) (1 + d) (22 + d * 27) 0 0 [.ref (xad (fX K) 10 6), .ref (xad (fX K) 0 9), .int a3, .int a4] τ (RI Q2) E) {X93 : Int32 → Int32 → Int32 → Int32 → Mem → Prop} {cells slots : Nat} (hX93 : ∀ (y2 : Int32) (y3 : Int32) (y4 : Int32) (y5 : Int32) (τ : Mem), X93 y2 y3 y4 y5 τ → Go K cells slots τ 93 [some (.ref (xad (fX K) 10 6)), none, some (.int y2), some (.int y3), some (.int y4), some (.int y5), none, none] ([])) (hc : cells ≤ 0) (hs : slots ≤ 0) : ∀ (n : Nat) (v2 : Int32) (v3 : Int32) (v4 : Int32) (v5 : Int32) (v6 : Int32) (s0 : Mem), wX9_divide_40   Q E W X93 n v2 v3 v4 v5 v6 s0 → Go K cells slots s0 40 [some (.ref (xad (fX K) 10 6)), some (.ref (xad (fX K) 0 9)), some (.int v2), some (.int v3), some (.int v4), some (.int v5), some (.int v6), none] ([]) := by
  intro n
  induction n with
  | zero => intro v2 v3 v4 v5 v6 s0 h; exact absurd h (by simp [wX9_divide_40])
  | succ n ih =>
    intro v2 v3 v4 v5 v6 s0 h
    simp only [wX9_divide_40] at h
    refine g_iload (np := 42) B.1 dX9_divide_40 rfl rfl ?_
    refine g_iload_n (np := 43) B.1 dX9_divide_42 rfl rfl ?_
    refine g_icmp_ge (np := 46) (tgt := 93) B.1 dX9_divide_43 (by decide) rfl (fun q => ?_) (fun q => ?_)
    · replace h := h.1 q
      refine Go.lle [some (.ref (xad (fX K) 10 6)), none, some (.int v2), some (.int v3), some (.int v4), some (.int v5), none, none] (by simp [lle]) ?_
      exact hX93 v2 v3 v4 v5 s0 h
    · replace h := h.2 q
      refine g_aload_n (np := 47) B.1 dX9_divide_46 rfl rfl ?_
      refine g_aload_n (np := 48) B.1 dX9_divide_47 rfl rfl ?_
      refine g_iload_n (np := 49) B.1 dX9_divide_48 rfl rfl ?_
      refine g_iload (np := 51) B.1 dX9_divide_49 rfl rfl ?_
      refine gc_YSpliceFinder_45 (np := 54) B   (hW v2 v6 _ _ h) (by omega) (by omega) (Nat.le_of_ble_eq_true rfl) hc hs dX9_divide_51 rfl (fun r5 s6 h => ?_)
      refine g_aload_n (np := 55) B.1 dX9_divide_54 rfl rfl ?_
      refine g_aload_n (np := 56) B.1 dX9_divide_55 rfl rfl ?_
      refine g_iload (np := 58) B.1 dX9_divide_56 rfl rfl ?_
      refine g_iconst (np := 59) (v := 1) B.1 dX9_divide_58 (by decide) rfl ?_
      refine g_iadd (np := 60) B.1 dX9_divide_59 rfl ?_
      refine g_iload_n (np := 61) B.1 dX9_divide_60 rfl rfl ?_
      refine gc_YSpliceFinder_45 (np := 64) B   (hW (v6 + 1) v3 _ _ h) (by omega) (by omega) (Nat.le_of_ble_eq_true rfl) hc hs dX9_divide_61 rfl (fun r7 s8 h => ?_)
      refine g_iadd (np := 65) B.1 dX9_divide_64 rfl ?_
      refine g_topi (fun v7_9 ev7_9 => ?_)
      replace h := h v7_9 ev7_9
      refine g_istore (np := 67) (lv' := [some (.ref (xad (fX K) 10 6)), some (.ref (xad (fX K) 0 9)), some (.int v2), some (.int v3), some (.int v4), some (.int v5), some (.int v6), some (.int v7_9)]) B.1 dX9_divide_65 (by decide) rfl rfl rfl ?_
      refine g_iload (np := 69) B.1 dX9_divide_67 rfl rfl ?_
      refine g_iload (np := 71) B.1 dX9_divide_69 rfl rfl ?_
      refine g_mmin (np := 74) B.1 b_778 b_155 b_30 b_156 (by rw [B.2.1]; show 1 ≤ (1 + (d + 1)); omega) (by rw [B.2.1]; show _ ≤ (22 + (d + 1) * 27); simp [Value.category]; omega) (by rw [B.2.1]; exact hc) (by rw [B.2.1]; exact hs) dX9_divide_71 rfl ?_
      refine g_topi (fun v4_10 ev4_10 => ?_)
      replace h := h v4_10 ev4_10
      refine g_istore (np := 76) (lv' := [some (.ref (xad (fX K) 10 6)), some (.ref (xad (fX K) 0 9)), some (.int v2), some (.int v3), some (.int v4_10), some (.int v5), some (.int v6), some (.int v7_9)]) B.1 dX9_divide_74 (by decide) rfl rfl rfl ?_
      refine g_iload (np := 78) B.1 dX9_divide_76 rfl rfl ?_
      refine g_aload_n (np := 79) B.1 dX9_divide_78 rfl rfl ?_
      refine g_iload (np := 81) B.1 dX9_divide_79 rfl rfl ?_
      refine gc_YSpliceFinder_24 (np := 84) B 9 (by decide : (9 : Nat) < 112) (oX7_get B.1.tr 9 (by decide : (9 : Nat) < 112) v6  _ _ _ h) (by omega) (by omega) (Nat.le_of_ble_eq_true rfl) hc hs dX9_divide_81 rfl (fun r11 s12 h => ?_)
      refine g_iadd (np := 85) B.1 dX9_divide_84 rfl ?_
      refine g_topi (fun v5_13 ev5_13 => ?_)
      replace h := h v5_13 ev5_13
      refine g_istore (np := 87) (lv' := [some (.ref (xad (fX K) 10 6)), some (.ref (xad (fX K) 0 9)), some (.int v2), some (.int v3), some (.int v4_10), some (.int v5_13), some (.int v6), some (.int v7_9)]) B.1 dX9_divide_85 (by decide) rfl rfl rfl ?_
      obtain ⟨v6_14, ev6_14⟩ : ∃ y : Int32, y = v6 + 1 := ⟨_, rfl⟩
      replace h := h v6_14 ev6_14
      refine g_iinc (np := 90) (v := v6_14) (lv' := [some (.ref (xad (fX K) 10 6)), some (.ref (xad (fX K) 0 9)), some (.int v2), some (.int v3), some (.int v4_10), some (.int v5_13), some (.int v6_14), some (.int v7_9)]) B.1 dX9_divide_87 rfl (by rw [ev6_14]; rfl) (by decide) rfl rfl rfl ?_
      refine g_goto (tgt := 40) B.1 dX9_divide_90 (by decide) ?_
      refine Go.lle [some (.ref (xad (fX K) 10 6)), some (.ref (xad (fX K) 0 9)), some (.int v2), some (.int v3), some (.int v4_10), some (.int v5_13), some (.int v6_14), none] (by simp [lle]) ?_
      exact ih v2 v3 v4_10 v5_13 v6_14 s12 h
set_option maxRecDepth 20000 in
set_option maxHeartbeats 4000000 in
theorem oX9_divide {l : Launch} {x : Ctx} (hl : l.stackTraces = false) : ∀ (d : Nat) (a3 : Int32) (a4 : Int32) (s0 : Mem) (Q : Int32 → Mem → Prop) (E : String → Mem → Prop), wX9_divide d a3 a4 s0 Q E → MetG l x yX9_divide cX9_divide 8 (some .int) (1 + d) (22 + d * 27) 0 0 [.ref (xad x 10 6), .ref (xad x 0 9), .int a3, .int a4] s0 (RI Q) E := by
  intro d
  induction d with
  | zero => intro a3 a4 s0 Q E h; exact absurd h (by simp [wX9_divide])
  | succ d ih =>
    intro a3 a4 s0 Q E h
    simp only [wX9_divide] at h
    refine MetG.of hl (by decide) (Nat.le_of_ble_eq_true rfl) [some (.ref (xad x 10 6)), some (.ref (xad x 0 9)), some (.int a3), some (.int a4), none, none, none, none] rfl (fun K B hx hl2 => ?_)
    subst hx
    subst hl2
    refine g_iload_n (np := 1) B.1 dX9_divide_0 rfl rfl ?_
    refine g_iload_n (np := 2) B.1 dX9_divide_1 rfl rfl ?_
    refine g_icmp_lt (np := 5) (tgt := 7) B.1 dX9_divide_2 (by decide) rfl (fun q => ?_) (fun q => ?_)
    · replace h := h.1 q
      refine g_aload_n (np := 8) B.1 dX9_divide_7 rfl rfl ?_
      refine g_iload_n (np := 9) B.1 dX9_divide_8 rfl rfl ?_
      refine g_iload_n (np := 10) B.1 dX9_divide_9 rfl rfl ?_
      refine gc_YSpliceFinder_28 (np := 13) B   (oX9_cell B.1.tr   a3 a4  _ _ _ h) (by omega) (by omega) (Nat.le_of_ble_eq_true rfl) (Nat.le_of_ble_eq_true rfl) (Nat.le_of_ble_eq_true rfl) dX9_divide_10 rfl (fun r1 s2 h => ?_)
      refine g_iald (np := 14) B.1 10 6 (by decide : (6 : Nat) < 8) rfl rfl h.1 dX9_divide_13 rfl ?_
      replace h := h.2
      refine g_iconst (np := 15) (v := (-1)) B.1 dX9_divide_14 (by decide) rfl ?_
      refine g_icmp_eq (np := 18) (tgt := 26) B.1 dX9_divide_15 (by decide) rfl (fun q => ?_) (fun q => ?_)
      · replace h := h.1 q
        refine g_ldc (np := 28) (v := 2147483647) B.1 b_777 dX9_divide_26 rfl ?_
        refine g_istore (np := 30) (lv' := [some (.ref (xad (fX K) 10 6)), some (.ref (xad (fX K) 0 9)), some (.int a3), some (.int a4), some (.int 2147483647), none, none, none]) B.1 dX9_divide_28 (by decide) rfl rfl rfl ?_
        refine g_aload_n (np := 31) B.1 dX9_divide_30 rfl rfl ?_
        refine g_iload_n (np := 32) B.1 dX9_divide_31 rfl rfl ?_
        refine gc_YSpliceFinder_24 (np := 35) B 9 (by decide : (9 : Nat) < 112) (oX7_get B.1.tr 9 (by decide : (9 : Nat) < 112) a4  _ _ _ h) (by omega) (by omega) (Nat.le_of_ble_eq_true rfl) (Nat.le_of_ble_eq_true rfl) (Nat.le_of_ble_eq_true rfl) dX9_divide_32 rfl (fun r3 s4 h => ?_)
        refine g_istore (np := 37) (lv' := [some (.ref (xad (fX K) 10 6)), some (.ref (xad (fX K) 0 9)), some (.int a3), some (.int a4), some (.int 2147483647), some (.int r3), none, none]) B.1 dX9_divide_35 (by decide) rfl rfl rfl ?_
        refine g_iload_n (np := 38) B.1 dX9_divide_37 rfl rfl ?_
        refine g_istore (np := 40) (lv' := [some (.ref (xad (fX K) 10 6)), some (.ref (xad (fX K) 0 9)), some (.int a3), some (.int a4), some (.int 2147483647), some (.int r3), some (.int a3), none]) B.1 dX9_divide_38 (by decide) rfl rfl rfl ?_
        obtain ⟨m27, h⟩ := h
        refine Go.lle [some (.ref (xad (fX K) 10 6)), some (.ref (xad (fX K) 0 9)), some (.int a3), some (.int a4), some (.int 2147483647), some (.int r3), some (.int a3), none] (by simp [lle]) ?_
        refine oX9_divide_40 B    (fun a3_ a4_ τ Q2 h => ih a3_ a4_ τ Q2 E h) (fun x2_15 x3_16 x4_17 x5_18 s19 h => ?_) (Nat.le_of_ble_eq_true rfl) (Nat.le_of_ble_eq_true rfl) m27 a3 a4 2147483647 r3 a3  s4 h
        refine g_aload_n (np := 94) B.1 dX9_divide_93 rfl rfl ?_
        refine g_iload_n (np := 95) B.1 dX9_divide_94 rfl rfl ?_
        refine g_iload_n (np := 96) B.1 dX9_divide_95 rfl rfl ?_
        refine gc_YSpliceFinder_28 (np := 99) B   (oX9_cell B.1.tr   x2_15 x3_16  _ _ _ h) (by omega) (by omega) (Nat.le_of_ble_eq_true rfl) (Nat.le_of_ble_eq_true rfl) (Nat.le_of_ble_eq_true rfl) dX9_divide_96 rfl (fun r20 s21 h => ?_)
        refine g_iload (np := 101) B.1 dX9_divide_99 rfl rfl ?_
        refine g_iload (np := 103) B.1 dX9_divide_101 rfl rfl ?_
        refine g_iload_n (np := 104) B.1 dX9_divide_103 rfl rfl ?_
        refine g_iload_n (np := 105) B.1 dX9_divide_104 rfl rfl ?_
        refine gc_YSpliceFinder_35 (np := 108) B   (oX9_lastSplice B.1.tr   x5_18 x2_15 x3_16  _ _ _ h) (by omega) (by omega) (Nat.le_of_ble_eq_true rfl) (Nat.le_of_ble_eq_true rfl) (Nat.le_of_ble_eq_true rfl) dX9_divide_105 rfl (fun r22 s23 h => ?_)
        refine g_iadd (np := 109) B.1 dX9_divide_108 rfl ?_
        refine g_iast (np := 110) B.1 10 6 (by decide : (6 : Nat) < 8) rfl (fun _ _ => rfl) h.1 dX9_divide_109 rfl ?_
        replace h := h.2
        refine g_mem (fun s24 es24 => ?_)
        replace h := h s24 es24
        refine g_aload_n (np := 111) B.1 dX9_divide_110 rfl rfl ?_
        refine g_iload_n (np := 112) B.1 dX9_divide_111 rfl rfl ?_
        refine g_iload_n (np := 113) B.1 dX9_divide_112 rfl rfl ?_
        refine gc_YSpliceFinder_28 (np := 116) B   (oX9_cell B.1.tr   x2_15 x3_16  _ _ _ h) (by omega) (by omega) (Nat.le_of_ble_eq_true rfl) (Nat.le_of_ble_eq_true rfl) (Nat.le_of_ble_eq_true rfl) dX9_divide_113 rfl (fun r25 s26 h => ?_)
        refine g_iald (np := 117) B.1 10 6 (by decide : (6 : Nat) < 8) rfl rfl h.1 dX9_divide_116 rfl ?_
        replace h := h.2
        exact g_iret B (ty := .int) rfl rfl (Nat.le_of_ble_eq_true rfl) (Nat.le_of_ble_eq_true rfl) dX9_divide_117 ⟨_, rfl, h⟩
      · replace h := h.2 q
        refine g_aload_n (np := 19) B.1 dX9_divide_18 rfl rfl ?_
        refine g_iload_n (np := 20) B.1 dX9_divide_19 rfl rfl ?_
        refine g_iload_n (np := 21) B.1 dX9_divide_20 rfl rfl ?_
        refine gc_YSpliceFinder_28 (np := 24) B   (oX9_cell B.1.tr   a3 a4  _ _ _ h) (by omega) (by omega) (Nat.le_of_ble_eq_true rfl) (Nat.le_of_ble_eq_true rfl) (Nat.le_of_ble_eq_true rfl) dX9_divide_21 rfl (fun r28 s29 h => ?_)
        refine g_iald (np := 25) B.1 10 6 (by decide : (6 : Nat) < 8) rfl rfl h.1 dX9_divide_24 rfl ?_
        replace h := h.2
        exact g_iret B (ty := .int) rfl rfl (Nat.le_of_ble_eq_true rfl) (Nat.le_of_ble_eq_true rfl) dX9_divide_25 ⟨_, rfl, h⟩
    · replace h := h.2 q
      refine g_iconst (np := 6) (v := 0) B.1 dX9_divide_5 (by decide) rfl ?_
      exact g_iret B (ty := .int) rfl rfl (Nat.le_of_ble_eq_true rfl) (Nat.le_of_ble_eq_true rfl) dX9_divide_6 ⟨_, rfl, h⟩
def wX9_costByMemory_2   (Q : Int32 → Mem → Prop) (E : String → Mem → Prop)  (X24 : Mem → Prop) : Nat → Int32 → Mem → Prop
  | 0, _, _ => False
  | n2 + 1, v2, s0 => ((nI (iaLen 6) ≤ v2 → X24  s0) ∧ (¬ nI (iaLen 6) ≤ v2 → vp_in v2 (iaLen 6) ∧ ∀ s1 : Mem, s1 = wr s0 10 6 v2.toNatClampNeg ((-1)) → ∀ v2_2 : Int32, v2_2 = (v2 + 1) → wX9_costByMemory_2   Q E X24 n2 v2_2 s1))
def wX9_costByMemory   (s0 : Mem) (Q : Int32 → Mem → Prop) (E : String → Mem → Prop) : Prop := ∃ m8 : Nat, wX9_costByMemory_2   Q E (fun (s3 : Mem) => wX7_size 9  s3 (fun (r4 : Int32) (s5 : Mem) => wX9_divide 13 0 (r4 - 1) s5 (fun (r6 : Int32) (s7 : Mem) => Q r6 s7) E) E) m8 0  s0
set_option maxRecDepth 20000 in
set_option maxHeartbeats 4000000 in
theorem oX9_costByMemory_2 {K : Fr} {Q : Int32 → Mem → Prop} {E : String → Mem → Prop} (B : Bd K cX9_costByMemory "YarnMill$SpliceFinder" 3 (some .int) 15 400 0 0 (RI Q) E)    {X24 : Mem → Prop} {cells slots : Nat} (hX24 : ∀ (τ : Mem), X24  τ → Go K cells slots τ 24 [some (.ref (xad (fX K) 9 0)), some (.ref (xad (fX K) 0 9)), none] ([])) (hc : cells ≤ 0) (hs : slots ≤ 0) : ∀ (n : Nat) (v2 : Int32) (s0 : Mem), wX9_costByMemory_2   Q E X24 n v2 s0 → Go K cells slots s0 2 [some (.ref (xad (fX K) 9 0)), some (.ref (xad (fX K) 0 9)), some (.int v2)] ([]) := by
  intro n
  induction n with
  | zero => intro v2 s0 h; exact absurd h (by simp [wX9_costByMemory_2])
  | succ n ih =>
    intro v2 s0 h
    simp only [wX9_costByMemory_2] at h
    refine g_iload_n (np := 3) B.1 dX9_costByMemory_2 rfl rfl ?_
    refine g_aload_n (np := 4) B.1 dX9_costByMemory_3 rfl rfl ?_
    refine gf_YSpliceFinder_15_9 (np := 7) B.1 dX9_costByMemory_4 rfl ?_
    refine g_alen (np := 8) B.1 10 6 (by decide : (6 : Nat) < 8) rfl rfl (t0 := 0) rfl (v := nI (iaLen 6)) rfl dX9_costByMemory_7 rfl ?_
    refine g_icmp_ge (np := 11) (tgt := 24) B.1 dX9_costByMemory_8 (by decide) rfl (fun q => ?_) (fun q => ?_)
    · replace h := h.1 q
      refine Go.lle [some (.ref (xad (fX K) 9 0)), some (.ref (xad (fX K) 0 9)), none] (by simp [lle]) ?_
      exact hX24  s0 h
    · replace h := h.2 q
      refine g_aload_n (np := 12) B.1 dX9_costByMemory_11 rfl rfl ?_
      refine gf_YSpliceFinder_15_9 (np := 15) B.1 dX9_costByMemory_12 rfl ?_
      refine g_iload_n (np := 16) B.1 dX9_costByMemory_15 rfl rfl ?_
      refine g_iconst (np := 17) (v := (-1)) B.1 dX9_costByMemory_16 (by decide) rfl ?_
      refine g_iast (np := 18) B.1 10 6 (by decide : (6 : Nat) < 8) rfl (fun _ _ => rfl) h.1 dX9_costByMemory_17 rfl ?_
      replace h := h.2
      refine g_mem (fun s1 es1 => ?_)
      replace h := h s1 es1
      obtain ⟨v2_2, ev2_2⟩ : ∃ y : Int32, y = v2 + 1 := ⟨_, rfl⟩
      replace h := h v2_2 ev2_2
      refine g_iinc (np := 21) (v := v2_2) (lv' := [some (.ref (xad (fX K) 9 0)), some (.ref (xad (fX K) 0 9)), some (.int v2_2)]) B.1 dX9_costByMemory_18 rfl (by rw [ev2_2]; rfl) (by decide) rfl rfl rfl ?_
      refine g_goto (tgt := 2) B.1 dX9_costByMemory_21 (by decide) ?_
      refine Go.lle [some (.ref (xad (fX K) 9 0)), some (.ref (xad (fX K) 0 9)), some (.int v2_2)] (by simp [lle]) ?_
      exact ih v2_2 s1 h
set_option maxRecDepth 20000 in
set_option maxHeartbeats 4000000 in
theorem oX9_costByMemory {l : Launch} {x : Ctx} (hl : l.stackTraces = false)     (s0 : Mem) (Q : Int32 → Mem → Prop) (E : String → Mem → Prop) (h : wX9_costByMemory   s0 Q E) : MetG l x yX9_costByMemory cX9_costByMemory 3 (some .int) 15 400 0 0 [.ref (xad x 9 0), .ref (xad x 0 9)] s0 (RI Q) E := by
  refine MetG.of hl (by decide) (Nat.le_of_ble_eq_true rfl) [some (.ref (xad x 9 0)), some (.ref (xad x 0 9)), none] rfl (fun K B hx _ => ?_)
  subst hx
  unfold wX9_costByMemory at h
  refine g_iconst (np := 1) (v := 0) B.1 dX9_costByMemory_0 (by decide) rfl ?_
  refine g_istore_n (np := 2) (lv' := [some (.ref (xad (fX K) 9 0)), some (.ref (xad (fX K) 0 9)), some (.int 0)]) B.1 dX9_costByMemory_1 (by decide) rfl rfl rfl ?_
  obtain ⟨m8, h⟩ := h
  refine Go.lle [some (.ref (xad (fX K) 9 0)), some (.ref (xad (fX K) 0 9)), some (.int 0)] (by simp [lle]) ?_
  refine oX9_costByMemory_2 B    (fun s3 h => ?_) (Nat.le_of_ble_eq_true rfl) (Nat.le_of_ble_eq_true rfl) m8 0  s0 h
  refine g_aload_n (np := 25) B.1 dX9_costByMemory_24 rfl rfl ?_
  refine gf_YSpliceFinder_15_9 (np := 28) B.1 dX9_costByMemory_25 rfl ?_
  refine g_aload_n (np := 29) B.1 dX9_costByMemory_28 rfl rfl ?_
  refine g_iconst (np := 30) (v := 0) B.1 dX9_costByMemory_29 (by decide) rfl ?_
  refine g_aload_n (np := 31) B.1 dX9_costByMemory_30 rfl rfl ?_
  refine gc_YSpliceFinder_18 (np := 34) B 9 (by decide : (9 : Nat) < 112) (oX7_size B.1.tr 9 (by decide : (9 : Nat) < 112)   _ _ _ h) (Nat.le_of_ble_eq_true rfl) (Nat.le_of_ble_eq_true rfl) (Nat.le_of_ble_eq_true rfl) (Nat.le_of_ble_eq_true rfl) (Nat.le_of_ble_eq_true rfl) dX9_costByMemory_31 rfl (fun r4 s5 h => ?_)
  refine g_iconst (np := 35) (v := 1) B.1 dX9_costByMemory_34 (by decide) rfl ?_
  refine g_isub (np := 36) B.1 dX9_costByMemory_35 rfl ?_
  refine gc_YSpliceFinder_45 (np := 39) B   (oX9_divide B.1.tr 13 0 (r4 - 1) _ _ _ h) (Nat.le_of_ble_eq_true rfl) (Nat.le_of_ble_eq_true rfl) (Nat.le_of_ble_eq_true rfl) (Nat.le_of_ble_eq_true rfl) (Nat.le_of_ble_eq_true rfl) dX9_costByMemory_36 rfl (fun r6 s7 h => ?_)
  exact g_iret B (ty := .int) rfl rfl (Nat.le_of_ble_eq_true rfl) (Nat.le_of_ble_eq_true rfl) dX9_costByMemory_39 ⟨_, rfl, h⟩
