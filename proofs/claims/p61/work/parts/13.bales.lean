def wX1_add (k : Nat) (a1 : Int32) (a2 : Int32) (a3 : Int32) (s0 : Mem) (Q : Int32 → Mem → Prop) (E : String → Mem → Prop) : Prop := ∀ v4_1 : Int32, v4_1 = (rd s0 2 k 5) → ∀ s2 : Mem, s2 = wr s0 2 k 5 ((rd s0 2 k 5) + 1) → wX7_add (10 * k + 0) v4_1 s2 (fun (s4 : Mem) => wX7_add (10 * k + 1) a1 s4 (fun (s6 : Mem) => wX7_add (10 * k + 2) a2 s6 (fun (s8 : Mem) => wX7_add (10 * k + 3) a3 s8 (fun (s10 : Mem) => wX7_add (10 * k + 4) (a1 * a3) s10 (fun (s12 : Mem) => Q v4_1 s12) E) E) E) E) E
set_option maxRecDepth 20000 in
set_option maxHeartbeats 4000000 in
theorem oX1_add {l : Launch} {x : Ctx} (hl : l.stackTraces = false) (k : Nat) (hk : k < 11) (a1 : Int32) (a2 : Int32) (a3 : Int32)  (s0 : Mem) (Q : Int32 → Mem → Prop) (E : String → Mem → Prop) (h : wX1_add k a1 a2 a3 s0 Q E) : MetG l x yX1_add cX1_add 5 (some .int) 1 21 0 0 [.ref (xad x 2 k), .int a1, .int a2, .int a3] s0 (RI Q) E := by
  refine MetG.of hl (by decide) (Nat.le_of_ble_eq_true rfl) [some (.ref (xad x 2 k)), some (.int a1), some (.int a2), some (.int a3), none] rfl (fun K B hx _ => ?_)
  subst hx
  unfold wX1_add at h
  refine g_aload_n (np := 1) B.1 dX1_add_0 rfl rfl ?_
  refine gf_YBales_32_2 (np := 4) B.1 k hk dX1_add_1 rfl ?_
  refine g_topi (fun v4_1 ev4_1 => ?_)
  replace h := h v4_1 ev4_1
  refine g_istore (np := 6) (lv' := [some (.ref (xad (fX K) 2 k)), some (.int a1), some (.int a2), some (.int a3), some (.int v4_1)]) B.1 dX1_add_4 (by decide) rfl rfl rfl ?_
  refine g_aload_n (np := 7) B.1 dX1_add_6 rfl rfl ?_
  refine g_dup (np := 8) B.1 dX1_add_7 rfl rfl ?_
  refine gf_YBales_32_2 (np := 11) B.1 k hk dX1_add_8 rfl ?_
  refine g_iconst (np := 12) (v := 1) B.1 dX1_add_11 (by decide) rfl ?_
  refine g_iadd (np := 13) B.1 dX1_add_12 rfl ?_
  refine gp_YBales_32_2 (np := 16) B.1 k hk dX1_add_13 rfl ?_
  refine g_mem (fun s2 es2 => ?_)
  replace h := h s2 es2
  refine g_aload_n (np := 17) B.1 dX1_add_16 rfl rfl ?_
  refine gf_YBales_14_2 (np := 20) B.1 k hk dX1_add_17 rfl ?_
  refine g_iload (np := 22) B.1 dX1_add_20 rfl rfl ?_
  refine gc_YBales_36 (np := 25) B (10 * k + 0) (lt_row hk (by decide)) (oX7_add B.1.tr (10 * k + 0) (lt_row hk (by decide)) v4_1  _ _ _ h) (Nat.le_of_ble_eq_true rfl) (Nat.le_of_ble_eq_true rfl) (Nat.le_of_ble_eq_true rfl) (Nat.le_of_ble_eq_true rfl) (Nat.le_of_ble_eq_true rfl) dX1_add_22 rfl (fun s4 h => ?_)
  refine g_aload_n (np := 26) B.1 dX1_add_25 rfl rfl ?_
  refine gf_YBales_20_2 (np := 29) B.1 k hk dX1_add_26 rfl ?_
  refine g_iload_n (np := 30) B.1 dX1_add_29 rfl rfl ?_
  refine gc_YBales_36 (np := 33) B (10 * k + 1) (lt_row hk (by decide)) (oX7_add B.1.tr (10 * k + 1) (lt_row hk (by decide)) a1  _ _ _ h) (Nat.le_of_ble_eq_true rfl) (Nat.le_of_ble_eq_true rfl) (Nat.le_of_ble_eq_true rfl) (Nat.le_of_ble_eq_true rfl) (Nat.le_of_ble_eq_true rfl) dX1_add_30 rfl (fun s6 h => ?_)
  refine g_aload_n (np := 34) B.1 dX1_add_33 rfl rfl ?_
  refine gf_YBales_23_2 (np := 37) B.1 k hk dX1_add_34 rfl ?_
  refine g_iload_n (np := 38) B.1 dX1_add_37 rfl rfl ?_
  refine gc_YBales_36 (np := 41) B (10 * k + 2) (lt_row hk (by decide)) (oX7_add B.1.tr (10 * k + 2) (lt_row hk (by decide)) a2  _ _ _ h) (Nat.le_of_ble_eq_true rfl) (Nat.le_of_ble_eq_true rfl) (Nat.le_of_ble_eq_true rfl) (Nat.le_of_ble_eq_true rfl) (Nat.le_of_ble_eq_true rfl) dX1_add_38 rfl (fun s8 h => ?_)
  refine g_aload_n (np := 42) B.1 dX1_add_41 rfl rfl ?_
  refine gf_YBales_26_2 (np := 45) B.1 k hk dX1_add_42 rfl ?_
  refine g_iload_n (np := 46) B.1 dX1_add_45 rfl rfl ?_
  refine gc_YBales_36 (np := 49) B (10 * k + 3) (lt_row hk (by decide)) (oX7_add B.1.tr (10 * k + 3) (lt_row hk (by decide)) a3  _ _ _ h) (Nat.le_of_ble_eq_true rfl) (Nat.le_of_ble_eq_true rfl) (Nat.le_of_ble_eq_true rfl) (Nat.le_of_ble_eq_true rfl) (Nat.le_of_ble_eq_true rfl) dX1_add_46 rfl (fun s10 h => ?_)
  refine g_aload_n (np := 50) B.1 dX1_add_49 rfl rfl ?_
  refine gf_YBales_29_2 (np := 53) B.1 k hk dX1_add_50 rfl ?_
  refine g_iload_n (np := 54) B.1 dX1_add_53 rfl rfl ?_
  refine g_iload_n (np := 55) B.1 dX1_add_54 rfl rfl ?_
  refine g_imul (np := 56) B.1 dX1_add_55 rfl ?_
  refine gc_YBales_36 (np := 59) B (10 * k + 4) (lt_row hk (by decide)) (oX7_add B.1.tr (10 * k + 4) (lt_row hk (by decide)) (a1 * a3)  _ _ _ h) (Nat.le_of_ble_eq_true rfl) (Nat.le_of_ble_eq_true rfl) (Nat.le_of_ble_eq_true rfl) (Nat.le_of_ble_eq_true rfl) (Nat.le_of_ble_eq_true rfl) dX1_add_56 rfl (fun s12 h => ?_)
  refine g_iload (np := 61) B.1 dX1_add_59 rfl rfl ?_
  exact g_iret B (ty := .int) rfl rfl (Nat.le_of_ble_eq_true rfl) (Nat.le_of_ble_eq_true rfl) dX1_add_61 ⟨_, rfl, h⟩
def wX1_weightOf_4 (k : Nat)  (Q : Int32 → Mem → Prop) (E : String → Mem → Prop)  (X40 : Int32 → Mem → Prop) : Nat → Int32 → Int32 → Int32 → Mem → Prop
  | 0, _, _, _, _ => False
  | n4 + 1, v1, v2, v3, s0 => wX7_size (10 * k + 0)  s0 (fun (r1 : Int32) (s2 : Mem) => ((r1 ≤ v3 → X40 v2 s2) ∧ (¬ r1 ≤ v3 → ((v1 &&& (1 <<< (v3 &&& 31)) = 0 → ∀ v3_3 : Int32, v3_3 = (v3 + 1) → wX1_weightOf_4 k  Q E X40 n4 v1 v2 v3_3 s2) ∧ (¬ v1 &&& (1 <<< (v3 &&& 31)) = 0 → wX7_get (10 * k + 1) v3 s2 (fun (r4 : Int32) (s5 : Mem) => ∀ v2_6 : Int32, v2_6 = (v2 + r4) → ∀ v3_7 : Int32, v3_7 = (v3 + 1) → wX1_weightOf_4 k  Q E X40 n4 v1 v2_6 v3_7 s5) E))))) E
def wX1_weightOf (k : Nat) (a1 : Int32) (s0 : Mem) (Q : Int32 → Mem → Prop) (E : String → Mem → Prop) : Prop := ∃ m10 : Nat, wX1_weightOf_4 k  Q E (fun (x2_8 : Int32) (s9 : Mem) => Q x2_8 s9) m10 a1 0 0  s0
set_option maxRecDepth 20000 in
set_option maxHeartbeats 4000000 in
theorem oX1_weightOf_4 {K : Fr} {Q : Int32 → Mem → Prop} {E : String → Mem → Prop} (B : Bd K cX1_weightOf "YarnMill$Bales" 4 (some .int) 1 21 0 0 (RI Q) E) (k : Nat)  (hk : k < 11) {X40 : Int32 → Mem → Prop} {cells slots : Nat} (hX40 : ∀ (y2 : Int32) (τ : Mem), X40 y2 τ → Go K cells slots τ 40 [none, none, some (.int y2), none] ([])) (hc : cells ≤ 0) (hs : slots ≤ 0) : ∀ (n : Nat) (v1 : Int32) (v2 : Int32) (v3 : Int32) (s0 : Mem), wX1_weightOf_4 k  Q E X40 n v1 v2 v3 s0 → Go K cells slots s0 4 [some (.ref (xad (fX K) 2 k)), some (.int v1), some (.int v2), some (.int v3)] ([]) := by
  intro n
  induction n with
  | zero => intro v1 v2 v3 s0 h; exact absurd h (by simp [wX1_weightOf_4])
  | succ n ih =>
    intro v1 v2 v3 s0 h
    simp only [wX1_weightOf_4] at h
    refine g_iload_n (np := 5) B.1 dX1_weightOf_4 rfl rfl ?_
    refine g_aload_n (np := 6) B.1 dX1_weightOf_5 rfl rfl ?_
    refine gf_YBales_14_2 (np := 9) B.1 k hk dX1_weightOf_6 rfl ?_
    refine gc_YBales_39 (np := 12) B (10 * k + 0) (lt_row hk (by decide)) (oX7_size B.1.tr (10 * k + 0) (lt_row hk (by decide))   _ _ _ h) (Nat.le_of_ble_eq_true rfl) (Nat.le_of_ble_eq_true rfl) (Nat.le_of_ble_eq_true rfl) hc hs dX1_weightOf_9 rfl (fun r1 s2 h => ?_)
    refine g_icmp_ge (np := 15) (tgt := 40) B.1 dX1_weightOf_12 (by decide) rfl (fun q => ?_) (fun q => ?_)
    · replace h := h.1 q
      refine Go.lle [none, none, some (.int v2), none] (by simp [lle]) ?_
      exact hX40 v2 s2 h
    · replace h := h.2 q
      refine g_iload_n (np := 16) B.1 dX1_weightOf_15 rfl rfl ?_
      refine g_iconst (np := 17) (v := 1) B.1 dX1_weightOf_16 (by decide) rfl ?_
      refine g_iload_n (np := 18) B.1 dX1_weightOf_17 rfl rfl ?_
      refine g_ishl (np := 19) B.1 dX1_weightOf_18 rfl ?_
      refine g_iand (np := 20) B.1 dX1_weightOf_19 rfl ?_
      refine g_if_eq (np := 23) (tgt := 34) B.1 dX1_weightOf_20 (by decide) rfl (fun q => ?_) (fun q => ?_)
      · replace h := h.1 q
        obtain ⟨v3_3, ev3_3⟩ : ∃ y : Int32, y = v3 + 1 := ⟨_, rfl⟩
        replace h := h v3_3 ev3_3
        refine g_iinc (np := 37) (v := v3_3) (lv' := [some (.ref (xad (fX K) 2 k)), some (.int v1), some (.int v2), some (.int v3_3)]) B.1 dX1_weightOf_34 rfl (by rw [ev3_3]; rfl) (by decide) rfl rfl rfl ?_
        refine g_goto (tgt := 4) B.1 dX1_weightOf_37 (by decide) ?_
        refine Go.lle [some (.ref (xad (fX K) 2 k)), some (.int v1), some (.int v2), some (.int v3_3)] (by simp [lle]) ?_
        exact ih v1 v2 v3_3 s2 h
      · replace h := h.2 q
        refine g_iload_n (np := 24) B.1 dX1_weightOf_23 rfl rfl ?_
        refine g_aload_n (np := 25) B.1 dX1_weightOf_24 rfl rfl ?_
        refine gf_YBales_20_2 (np := 28) B.1 k hk dX1_weightOf_25 rfl ?_
        refine g_iload_n (np := 29) B.1 dX1_weightOf_28 rfl rfl ?_
        refine gc_YBales_43 (np := 32) B (10 * k + 1) (lt_row hk (by decide)) (oX7_get B.1.tr (10 * k + 1) (lt_row hk (by decide)) v3  _ _ _ h) (Nat.le_of_ble_eq_true rfl) (Nat.le_of_ble_eq_true rfl) (Nat.le_of_ble_eq_true rfl) hc hs dX1_weightOf_29 rfl (fun r4 s5 h => ?_)
        refine g_iadd (np := 33) B.1 dX1_weightOf_32 rfl ?_
        refine g_topi (fun v2_6 ev2_6 => ?_)
        replace h := h v2_6 ev2_6
        refine g_istore_n (np := 34) (lv' := [some (.ref (xad (fX K) 2 k)), some (.int v1), some (.int v2_6), some (.int v3)]) B.1 dX1_weightOf_33 (by decide) rfl rfl rfl ?_
        obtain ⟨v3_7, ev3_7⟩ : ∃ y : Int32, y = v3 + 1 := ⟨_, rfl⟩
        replace h := h v3_7 ev3_7
        refine g_iinc (np := 37) (v := v3_7) (lv' := [some (.ref (xad (fX K) 2 k)), some (.int v1), some (.int v2_6), some (.int v3_7)]) B.1 dX1_weightOf_34 rfl (by rw [ev3_7]; rfl) (by decide) rfl rfl rfl ?_
        refine g_goto (tgt := 4) B.1 dX1_weightOf_37 (by decide) ?_
        refine Go.lle [some (.ref (xad (fX K) 2 k)), some (.int v1), some (.int v2_6), some (.int v3_7)] (by simp [lle]) ?_
        exact ih v1 v2_6 v3_7 s5 h
set_option maxRecDepth 20000 in
set_option maxHeartbeats 4000000 in
theorem oX1_weightOf {l : Launch} {x : Ctx} (hl : l.stackTraces = false) (k : Nat) (hk : k < 11) (a1 : Int32)  (s0 : Mem) (Q : Int32 → Mem → Prop) (E : String → Mem → Prop) (h : wX1_weightOf k a1 s0 Q E) : MetG l x yX1_weightOf cX1_weightOf 4 (some .int) 1 21 0 0 [.ref (xad x 2 k), .int a1] s0 (RI Q) E := by
  refine MetG.of hl (by decide) (Nat.le_of_ble_eq_true rfl) [some (.ref (xad x 2 k)), some (.int a1), none, none] rfl (fun K B hx _ => ?_)
  subst hx
  unfold wX1_weightOf at h
  refine g_iconst (np := 1) (v := 0) B.1 dX1_weightOf_0 (by decide) rfl ?_
  refine g_istore_n (np := 2) (lv' := [some (.ref (xad (fX K) 2 k)), some (.int a1), some (.int 0), none]) B.1 dX1_weightOf_1 (by decide) rfl rfl rfl ?_
  refine g_iconst (np := 3) (v := 0) B.1 dX1_weightOf_2 (by decide) rfl ?_
  refine g_istore_n (np := 4) (lv' := [some (.ref (xad (fX K) 2 k)), some (.int a1), some (.int 0), some (.int 0)]) B.1 dX1_weightOf_3 (by decide) rfl rfl rfl ?_
  obtain ⟨m10, h⟩ := h
  refine Go.lle [some (.ref (xad (fX K) 2 k)), some (.int a1), some (.int 0), some (.int 0)] (by simp [lle]) ?_
  refine oX1_weightOf_4 B k  hk (fun x2_8 s9 h => ?_) (Nat.le_of_ble_eq_true rfl) (Nat.le_of_ble_eq_true rfl) m10 a1 0 0  s0 h
  refine g_iload_n (np := 41) B.1 dX1_weightOf_40 rfl rfl ?_
  exact g_iret B (ty := .int) rfl rfl (Nat.le_of_ble_eq_true rfl) (Nat.le_of_ble_eq_true rfl) dX1_weightOf_41 ⟨_, rfl, h⟩
def wX1_removeAt (k : Nat) (a1 : Int32) (s0 : Mem) (Q : Mem → Prop) (E : String → Mem → Prop) : Prop := wX7_removeAt (10 * k + 0) a1 s0 (fun (s2 : Mem) => wX7_removeAt (10 * k + 1) a1 s2 (fun (s4 : Mem) => wX7_removeAt (10 * k + 2) a1 s4 (fun (s6 : Mem) => wX7_removeAt (10 * k + 3) a1 s6 (fun (s8 : Mem) => wX7_removeAt (10 * k + 4) a1 s8 (fun (s10 : Mem) => Q s10) E) E) E) E) E
set_option maxRecDepth 20000 in
set_option maxHeartbeats 4000000 in
theorem oX1_removeAt {l : Launch} {x : Ctx} (hl : l.stackTraces = false) (k : Nat) (hk : k < 11) (a1 : Int32)  (s0 : Mem) (Q : Mem → Prop) (E : String → Mem → Prop) (h : wX1_removeAt k a1 s0 Q E) : MetG l x yX1_removeAt cX1_removeAt 2 none 1 22 0 0 [.ref (xad x 2 k), .int a1] s0 (RV Q) E := by
  refine MetG.of hl (by decide) (Nat.le_of_ble_eq_true rfl) [some (.ref (xad x 2 k)), some (.int a1)] rfl (fun K B hx _ => ?_)
  subst hx
  unfold wX1_removeAt at h
  refine g_aload_n (np := 1) B.1 dX1_removeAt_0 rfl rfl ?_
  refine gf_YBales_14_2 (np := 4) B.1 k hk dX1_removeAt_1 rfl ?_
  refine g_iload_n (np := 5) B.1 dX1_removeAt_4 rfl rfl ?_
  refine gc_YBales_50 (np := 8) B (10 * k + 0) (lt_row hk (by decide)) (oX7_removeAt B.1.tr (10 * k + 0) (lt_row hk (by decide)) a1  _ _ _ h) (Nat.le_of_ble_eq_true rfl) (Nat.le_of_ble_eq_true rfl) (Nat.le_of_ble_eq_true rfl) (Nat.le_of_ble_eq_true rfl) (Nat.le_of_ble_eq_true rfl) dX1_removeAt_5 rfl (fun s2 h => ?_)
  refine g_aload_n (np := 9) B.1 dX1_removeAt_8 rfl rfl ?_
  refine gf_YBales_20_2 (np := 12) B.1 k hk dX1_removeAt_9 rfl ?_
  refine g_iload_n (np := 13) B.1 dX1_removeAt_12 rfl rfl ?_
  refine gc_YBales_50 (np := 16) B (10 * k + 1) (lt_row hk (by decide)) (oX7_removeAt B.1.tr (10 * k + 1) (lt_row hk (by decide)) a1  _ _ _ h) (Nat.le_of_ble_eq_true rfl) (Nat.le_of_ble_eq_true rfl) (Nat.le_of_ble_eq_true rfl) (Nat.le_of_ble_eq_true rfl) (Nat.le_of_ble_eq_true rfl) dX1_removeAt_13 rfl (fun s4 h => ?_)
  refine g_aload_n (np := 17) B.1 dX1_removeAt_16 rfl rfl ?_
  refine gf_YBales_23_2 (np := 20) B.1 k hk dX1_removeAt_17 rfl ?_
  refine g_iload_n (np := 21) B.1 dX1_removeAt_20 rfl rfl ?_
  refine gc_YBales_50 (np := 24) B (10 * k + 2) (lt_row hk (by decide)) (oX7_removeAt B.1.tr (10 * k + 2) (lt_row hk (by decide)) a1  _ _ _ h) (Nat.le_of_ble_eq_true rfl) (Nat.le_of_ble_eq_true rfl) (Nat.le_of_ble_eq_true rfl) (Nat.le_of_ble_eq_true rfl) (Nat.le_of_ble_eq_true rfl) dX1_removeAt_21 rfl (fun s6 h => ?_)
  refine g_aload_n (np := 25) B.1 dX1_removeAt_24 rfl rfl ?_
  refine gf_YBales_26_2 (np := 28) B.1 k hk dX1_removeAt_25 rfl ?_
  refine g_iload_n (np := 29) B.1 dX1_removeAt_28 rfl rfl ?_
  refine gc_YBales_50 (np := 32) B (10 * k + 3) (lt_row hk (by decide)) (oX7_removeAt B.1.tr (10 * k + 3) (lt_row hk (by decide)) a1  _ _ _ h) (Nat.le_of_ble_eq_true rfl) (Nat.le_of_ble_eq_true rfl) (Nat.le_of_ble_eq_true rfl) (Nat.le_of_ble_eq_true rfl) (Nat.le_of_ble_eq_true rfl) dX1_removeAt_29 rfl (fun s8 h => ?_)
  refine g_aload_n (np := 33) B.1 dX1_removeAt_32 rfl rfl ?_
  refine gf_YBales_29_2 (np := 36) B.1 k hk dX1_removeAt_33 rfl ?_
  refine g_iload_n (np := 37) B.1 dX1_removeAt_36 rfl rfl ?_
  refine gc_YBales_50 (np := 40) B (10 * k + 4) (lt_row hk (by decide)) (oX7_removeAt B.1.tr (10 * k + 4) (lt_row hk (by decide)) a1  _ _ _ h) (Nat.le_of_ble_eq_true rfl) (Nat.le_of_ble_eq_true rfl) (Nat.le_of_ble_eq_true rfl) (Nat.le_of_ble_eq_true rfl) (Nat.le_of_ble_eq_true rfl) dX1_removeAt_37 rfl (fun s10 h => ?_)
  exact g_vret B rfl (Nat.le_of_ble_eq_true rfl) (Nat.le_of_ble_eq_true rfl) dX1_removeAt_40 ⟨rfl, h⟩
def wX1_removeSet_10 (k : Nat)  (Q : Mem → Prop) (E : String → Mem → Prop)  (X33 : Mem → Prop) : Nat → Int32 → Int32 → Mem → Prop
  | 0, _, _, _ => False
  | n10 + 1, v1, v2, s0 => ((v2 < 0 → X33  s0) ∧ (¬ v2 < 0 → ((v1 &&& (1 <<< (v2 &&& 31)) = 0 → ∀ v2_4 : Int32, v2_4 = (v2 + (-1)) → wX1_removeSet_10 k  Q E X33 n10 v1 v2_4 s0) ∧ (¬ v1 &&& (1 <<< (v2 &&& 31)) = 0 → wX1_removeAt k v2 s0 (fun (s6 : Mem) => ∀ v2_7 : Int32, v2_7 = (v2 + (-1)) → wX1_removeSet_10 k  Q E X33 n10 v1 v2_7 s6) E))))
def wX1_removeSet (k : Nat) (a1 : Int32) (s0 : Mem) (Q : Mem → Prop) (E : String → Mem → Prop) : Prop := wX7_size (10 * k + 0)  s0 (fun (r1 : Int32) (s2 : Mem) => ∀ v2_3 : Int32, v2_3 = (r1 - 1) → ∃ m9 : Nat, wX1_removeSet_10 k  Q E (fun (s8 : Mem) => Q s8) m9 a1 v2_3  s2) E
set_option maxRecDepth 20000 in
set_option maxHeartbeats 4000000 in
theorem oX1_removeSet_10 {K : Fr} {Q : Mem → Prop} {E : String → Mem → Prop} (B : Bd K cX1_removeSet "YarnMill$Bales" 3 none 2 43 0 0 (RV Q) E) (k : Nat)  (hk : k < 11) {X33 : Mem → Prop} {cells slots : Nat} (hX33 : ∀ (τ : Mem), X33  τ → Go K cells slots τ 33 [none, none, none] ([])) (hc : cells ≤ 0) (hs : slots ≤ 0) : ∀ (n : Nat) (v1 : Int32) (v2 : Int32) (s0 : Mem), wX1_removeSet_10 k  Q E X33 n v1 v2 s0 → Go K cells slots s0 10 [some (.ref (xad (fX K) 2 k)), some (.int v1), some (.int v2)] ([]) := by
  intro n
  induction n with
  | zero => intro v1 v2 s0 h; exact absurd h (by simp [wX1_removeSet_10])
  | succ n ih =>
    intro v1 v2 s0 h
    simp only [wX1_removeSet_10] at h
    refine g_iload_n (np := 11) B.1 dX1_removeSet_10 rfl rfl ?_
    refine g_if_lt (np := 14) (tgt := 33) B.1 dX1_removeSet_11 (by decide) rfl (fun q => ?_) (fun q => ?_)
    · replace h := h.1 q
      refine Go.lle [none, none, none] (by simp [lle]) ?_
      exact hX33  s0 h
    · replace h := h.2 q
      refine g_iload_n (np := 15) B.1 dX1_removeSet_14 rfl rfl ?_
      refine g_iconst (np := 16) (v := 1) B.1 dX1_removeSet_15 (by decide) rfl ?_
      refine g_iload_n (np := 17) B.1 dX1_removeSet_16 rfl rfl ?_
      refine g_ishl (np := 18) B.1 dX1_removeSet_17 rfl ?_
      refine g_iand (np := 19) B.1 dX1_removeSet_18 rfl ?_
      refine g_if_eq (np := 22) (tgt := 27) B.1 dX1_removeSet_19 (by decide) rfl (fun q => ?_) (fun q => ?_)
      · replace h := h.1 q
        obtain ⟨v2_4, ev2_4⟩ : ∃ y : Int32, y = v2 + (-1) := ⟨_, rfl⟩
        replace h := h v2_4 ev2_4
        refine g_iinc (np := 30) (v := v2_4) (lv' := [some (.ref (xad (fX K) 2 k)), some (.int v1), some (.int v2_4)]) B.1 dX1_removeSet_27 rfl (by rw [ev2_4]; rfl) (by decide) rfl rfl rfl ?_
        refine g_goto (tgt := 10) B.1 dX1_removeSet_30 (by decide) ?_
        refine Go.lle [some (.ref (xad (fX K) 2 k)), some (.int v1), some (.int v2_4)] (by simp [lle]) ?_
        exact ih v1 v2_4 s0 h
      · replace h := h.2 q
        refine g_aload_n (np := 23) B.1 dX1_removeSet_22 rfl rfl ?_
        refine g_iload_n (np := 24) B.1 dX1_removeSet_23 rfl rfl ?_
        refine gc_YBales_47 (np := 27) B k hk (oX1_removeAt B.1.tr k hk v2  _ _ _ h) (Nat.le_of_ble_eq_true rfl) (Nat.le_of_ble_eq_true rfl) (Nat.le_of_ble_eq_true rfl) hc hs dX1_removeSet_24 rfl (fun s6 h => ?_)
        obtain ⟨v2_7, ev2_7⟩ : ∃ y : Int32, y = v2 + (-1) := ⟨_, rfl⟩
        replace h := h v2_7 ev2_7
        refine g_iinc (np := 30) (v := v2_7) (lv' := [some (.ref (xad (fX K) 2 k)), some (.int v1), some (.int v2_7)]) B.1 dX1_removeSet_27 rfl (by rw [ev2_7]; rfl) (by decide) rfl rfl rfl ?_
        refine g_goto (tgt := 10) B.1 dX1_removeSet_30 (by decide) ?_
        refine Go.lle [some (.ref (xad (fX K) 2 k)), some (.int v1), some (.int v2_7)] (by simp [lle]) ?_
        exact ih v1 v2_7 s6 h
set_option maxRecDepth 20000 in
set_option maxHeartbeats 4000000 in
theorem oX1_removeSet {l : Launch} {x : Ctx} (hl : l.stackTraces = false) (k : Nat) (hk : k < 11) (a1 : Int32)  (s0 : Mem) (Q : Mem → Prop) (E : String → Mem → Prop) (h : wX1_removeSet k a1 s0 Q E) : MetG l x yX1_removeSet cX1_removeSet 3 none 2 43 0 0 [.ref (xad x 2 k), .int a1] s0 (RV Q) E := by
  refine MetG.of hl (by decide) (Nat.le_of_ble_eq_true rfl) [some (.ref (xad x 2 k)), some (.int a1), none] rfl (fun K B hx _ => ?_)
  subst hx
  unfold wX1_removeSet at h
  refine g_aload_n (np := 1) B.1 dX1_removeSet_0 rfl rfl ?_
  refine gf_YBales_14_2 (np := 4) B.1 k hk dX1_removeSet_1 rfl ?_
  refine gc_YBales_39 (np := 7) B (10 * k + 0) (lt_row hk (by decide)) (oX7_size B.1.tr (10 * k + 0) (lt_row hk (by decide))   _ _ _ h) (Nat.le_of_ble_eq_true rfl) (Nat.le_of_ble_eq_true rfl) (Nat.le_of_ble_eq_true rfl) (Nat.le_of_ble_eq_true rfl) (Nat.le_of_ble_eq_true rfl) dX1_removeSet_4 rfl (fun r1 s2 h => ?_)
  refine g_iconst (np := 8) (v := 1) B.1 dX1_removeSet_7 (by decide) rfl ?_
  refine g_isub (np := 9) B.1 dX1_removeSet_8 rfl ?_
  refine g_topi (fun v2_3 ev2_3 => ?_)
  replace h := h v2_3 ev2_3
  refine g_istore_n (np := 10) (lv' := [some (.ref (xad (fX K) 2 k)), some (.int a1), some (.int v2_3)]) B.1 dX1_removeSet_9 (by decide) rfl rfl rfl ?_
  obtain ⟨m9, h⟩ := h
  refine Go.lle [some (.ref (xad (fX K) 2 k)), some (.int a1), some (.int v2_3)] (by simp [lle]) ?_
  refine oX1_removeSet_10 B k  hk (fun s8 h => ?_) (Nat.le_of_ble_eq_true rfl) (Nat.le_of_ble_eq_true rfl) m9 a1 v2_3  s2 h
  exact g_vret B rfl (Nat.le_of_ble_eq_true rfl) (Nat.le_of_ble_eq_true rfl) dX1_removeSet_33 ⟨rfl, h⟩
def wX1_copyFrom (k : Nat) (k2 : Nat)  (s0 : Mem) (Q : Mem → Prop) (E : String → Mem → Prop) : Prop := wX7_copyFrom (10 * k + 0) (10 * k2 + 0)  s0 (fun (s2 : Mem) => wX7_copyFrom (10 * k + 1) (10 * k2 + 1)  s2 (fun (s4 : Mem) => wX7_copyFrom (10 * k + 2) (10 * k2 + 2)  s4 (fun (s6 : Mem) => wX7_copyFrom (10 * k + 3) (10 * k2 + 3)  s6 (fun (s8 : Mem) => wX7_copyFrom (10 * k + 4) (10 * k2 + 4)  s8 (fun (s10 : Mem) => ∀ s11 : Mem, s11 = wr s10 2 k 5 (rd s10 2 k2 5) → Q s11) E) E) E) E) E
set_option maxRecDepth 20000 in
set_option maxHeartbeats 4000000 in
theorem oX1_copyFrom {l : Launch} {x : Ctx} (hl : l.stackTraces = false) (k : Nat) (k2 : Nat) (hk : k < 11) (hk2 : k2 < 11)   (s0 : Mem) (Q : Mem → Prop) (E : String → Mem → Prop) (h : wX1_copyFrom k k2  s0 Q E) : MetG l x yX1_copyFrom cX1_copyFrom 2 none 2 81 0 0 [.ref (xad x 2 k), .ref (xad x 2 k2)] s0 (RV Q) E := by
  refine MetG.of hl (by decide) (Nat.le_of_ble_eq_true rfl) [some (.ref (xad x 2 k)), some (.ref (xad x 2 k2))] rfl (fun K B hx _ => ?_)
  subst hx
  unfold wX1_copyFrom at h
  refine g_aload_n (np := 1) B.1 dX1_copyFrom_0 rfl rfl ?_
  refine gf_YBales_14_2 (np := 4) B.1 k hk dX1_copyFrom_1 rfl ?_
  refine g_aload_n (np := 5) B.1 dX1_copyFrom_4 rfl rfl ?_
  refine gf_YBales_14_2 (np := 8) B.1 k2 hk2 dX1_copyFrom_5 rfl ?_
  refine gc_YBales_54 (np := 11) B (10 * k + 0) (10 * k2 + 0) (lt_row hk (by decide)) (lt_row hk2 (by decide)) (oX7_copyFrom B.1.tr (10 * k + 0) (10 * k2 + 0) (lt_row hk (by decide)) (lt_row hk2 (by decide))   _ _ _ h) (Nat.le_of_ble_eq_true rfl) (Nat.le_of_ble_eq_true rfl) (Nat.le_of_ble_eq_true rfl) (Nat.le_of_ble_eq_true rfl) (Nat.le_of_ble_eq_true rfl) dX1_copyFrom_8 rfl (fun s2 h => ?_)
  refine g_aload_n (np := 12) B.1 dX1_copyFrom_11 rfl rfl ?_
  refine gf_YBales_20_2 (np := 15) B.1 k hk dX1_copyFrom_12 rfl ?_
  refine g_aload_n (np := 16) B.1 dX1_copyFrom_15 rfl rfl ?_
  refine gf_YBales_20_2 (np := 19) B.1 k2 hk2 dX1_copyFrom_16 rfl ?_
  refine gc_YBales_54 (np := 22) B (10 * k + 1) (10 * k2 + 1) (lt_row hk (by decide)) (lt_row hk2 (by decide)) (oX7_copyFrom B.1.tr (10 * k + 1) (10 * k2 + 1) (lt_row hk (by decide)) (lt_row hk2 (by decide))   _ _ _ h) (Nat.le_of_ble_eq_true rfl) (Nat.le_of_ble_eq_true rfl) (Nat.le_of_ble_eq_true rfl) (Nat.le_of_ble_eq_true rfl) (Nat.le_of_ble_eq_true rfl) dX1_copyFrom_19 rfl (fun s4 h => ?_)
  refine g_aload_n (np := 23) B.1 dX1_copyFrom_22 rfl rfl ?_
  refine gf_YBales_23_2 (np := 26) B.1 k hk dX1_copyFrom_23 rfl ?_
  refine g_aload_n (np := 27) B.1 dX1_copyFrom_26 rfl rfl ?_
  refine gf_YBales_23_2 (np := 30) B.1 k2 hk2 dX1_copyFrom_27 rfl ?_
  refine gc_YBales_54 (np := 33) B (10 * k + 2) (10 * k2 + 2) (lt_row hk (by decide)) (lt_row hk2 (by decide)) (oX7_copyFrom B.1.tr (10 * k + 2) (10 * k2 + 2) (lt_row hk (by decide)) (lt_row hk2 (by decide))   _ _ _ h) (Nat.le_of_ble_eq_true rfl) (Nat.le_of_ble_eq_true rfl) (Nat.le_of_ble_eq_true rfl) (Nat.le_of_ble_eq_true rfl) (Nat.le_of_ble_eq_true rfl) dX1_copyFrom_30 rfl (fun s6 h => ?_)
  refine g_aload_n (np := 34) B.1 dX1_copyFrom_33 rfl rfl ?_
  refine gf_YBales_26_2 (np := 37) B.1 k hk dX1_copyFrom_34 rfl ?_
  refine g_aload_n (np := 38) B.1 dX1_copyFrom_37 rfl rfl ?_
  refine gf_YBales_26_2 (np := 41) B.1 k2 hk2 dX1_copyFrom_38 rfl ?_
  refine gc_YBales_54 (np := 44) B (10 * k + 3) (10 * k2 + 3) (lt_row hk (by decide)) (lt_row hk2 (by decide)) (oX7_copyFrom B.1.tr (10 * k + 3) (10 * k2 + 3) (lt_row hk (by decide)) (lt_row hk2 (by decide))   _ _ _ h) (Nat.le_of_ble_eq_true rfl) (Nat.le_of_ble_eq_true rfl) (Nat.le_of_ble_eq_true rfl) (Nat.le_of_ble_eq_true rfl) (Nat.le_of_ble_eq_true rfl) dX1_copyFrom_41 rfl (fun s8 h => ?_)
  refine g_aload_n (np := 45) B.1 dX1_copyFrom_44 rfl rfl ?_
  refine gf_YBales_29_2 (np := 48) B.1 k hk dX1_copyFrom_45 rfl ?_
  refine g_aload_n (np := 49) B.1 dX1_copyFrom_48 rfl rfl ?_
  refine gf_YBales_29_2 (np := 52) B.1 k2 hk2 dX1_copyFrom_49 rfl ?_
  refine gc_YBales_54 (np := 55) B (10 * k + 4) (10 * k2 + 4) (lt_row hk (by decide)) (lt_row hk2 (by decide)) (oX7_copyFrom B.1.tr (10 * k + 4) (10 * k2 + 4) (lt_row hk (by decide)) (lt_row hk2 (by decide))   _ _ _ h) (Nat.le_of_ble_eq_true rfl) (Nat.le_of_ble_eq_true rfl) (Nat.le_of_ble_eq_true rfl) (Nat.le_of_ble_eq_true rfl) (Nat.le_of_ble_eq_true rfl) dX1_copyFrom_52 rfl (fun s10 h => ?_)
  refine g_aload_n (np := 56) B.1 dX1_copyFrom_55 rfl rfl ?_
  refine g_aload_n (np := 57) B.1 dX1_copyFrom_56 rfl rfl ?_
  refine gf_YBales_32_2 (np := 60) B.1 k2 hk2 dX1_copyFrom_57 rfl ?_
  refine gp_YBales_32_2 (np := 63) B.1 k hk dX1_copyFrom_60 rfl ?_
  refine g_mem (fun s11 es11 => ?_)
  replace h := h s11 es11
  exact g_vret B rfl (Nat.le_of_ble_eq_true rfl) (Nat.le_of_ble_eq_true rfl) dX1_copyFrom_63 ⟨rfl, h⟩
def wX12_isBetween  (a1 : Int32) (a2 : Int32) (a3 : Int32) (s0 : Mem) (Q : Int32 → Mem → Prop) (E : String → Mem → Prop) : Prop := ((a1 < a2 → Q 0 s0) ∧ (¬ a1 < a2 → ((a3 < a1 → Q 0 s0) ∧ (¬ a3 < a1 → Q 1 s0))))
set_option maxRecDepth 20000 in
set_option maxHeartbeats 4000000 in
theorem oX12_isBetween {l : Launch} {x : Ctx} (hl : l.stackTraces = false)   (a1 : Int32) (a2 : Int32) (a3 : Int32)  (s0 : Mem) (Q : Int32 → Mem → Prop) (E : String → Mem → Prop) (h : wX12_isBetween  a1 a2 a3 s0 Q E) : MetG l x yX12_isBetween cX12_isBetween 3 (some .boolean) 0 0 0 0 [.int a1, .int a2, .int a3] s0 (RI Q) E := by
  refine MetG.of hl (by decide) (Nat.le_of_ble_eq_true rfl) [some (.int a1), some (.int a2), some (.int a3)] rfl (fun K B hx _ => ?_)
  subst hx
  unfold wX12_isBetween at h
  refine g_iload_n (np := 1) B.1 dX12_isBetween_0 rfl rfl ?_
  refine g_iload_n (np := 2) B.1 dX12_isBetween_1 rfl rfl ?_
  refine g_icmp_lt (np := 5) (tgt := 14) B.1 dX12_isBetween_2 (by decide) rfl (fun q => ?_) (fun q => ?_)
  · replace h := h.1 q
    refine g_iconst (np := 15) (v := 0) B.1 dX12_isBetween_14 (by decide) rfl ?_
    exact g_iret B (ty := .boolean) rfl (by decide) (Nat.le_of_ble_eq_true rfl) (Nat.le_of_ble_eq_true rfl) dX12_isBetween_15 ⟨_, rfl, h⟩
  · replace h := h.2 q
    refine g_iload_n (np := 6) B.1 dX12_isBetween_5 rfl rfl ?_
    refine g_iload_n (np := 7) B.1 dX12_isBetween_6 rfl rfl ?_
    refine g_icmp_gt (np := 10) (tgt := 14) B.1 dX12_isBetween_7 (by decide) rfl (fun q => ?_) (fun q => ?_)
    · replace h := h.1 q
      refine g_iconst (np := 15) (v := 0) B.1 dX12_isBetween_14 (by decide) rfl ?_
      exact g_iret B (ty := .boolean) rfl (by decide) (Nat.le_of_ble_eq_true rfl) (Nat.le_of_ble_eq_true rfl) dX12_isBetween_15 ⟨_, rfl, h⟩
    · replace h := h.2 q
      refine g_iconst (np := 11) (v := 1) B.1 dX12_isBetween_10 (by decide) rfl ?_
      refine g_goto (tgt := 15) B.1 dX12_isBetween_11 (by decide) ?_
      exact g_iret B (ty := .boolean) rfl (by decide) (Nat.le_of_ble_eq_true rfl) (Nat.le_of_ble_eq_true rfl) dX12_isBetween_15 ⟨_, rfl, h⟩
theorem noE_X12_isBetween {a1 a2 a3 : Int32} {s0 : Mem} {Q : Int32 → Mem → Prop} {E E2 : String → Mem → Prop} (h : wX12_isBetween a1 a2 a3 s0 Q E) : wX12_isBetween a1 a2 a3 s0 Q E2 := h
