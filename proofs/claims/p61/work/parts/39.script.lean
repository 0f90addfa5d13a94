def wX8_isFull   (s0 : Mem) (Q : Int32 → Mem → Prop) (E : String → Mem → Prop) : Prop := wJ4_length_8abf5 0  s0 (fun (r1 : Int32) (s2 : Mem) => s2 = s0 ∧ ((r1 < 60 → Q 0 s0) ∧ (¬ r1 < 60 → Q 1 s0))) E
set_option maxRecDepth 20000 in
set_option maxHeartbeats 4000000 in
theorem oX8_isFull {l : Launch} {x : Ctx} (hl : l.stackTraces = false)     (s0 : Mem) (Q : Int32 → Mem → Prop) (E : String → Mem → Prop) (h : wX8_isFull   s0 Q E) : MetG l x yX8_isFull cX8_isFull 1 (some .boolean) 2 40 0 0 [.ref (xad x 11 0)] s0 (RI Q) E := by
  refine MetG.of hl (by decide) (Nat.le_of_ble_eq_true rfl) [some (.ref (xad x 11 0))] rfl (fun K B hx _ => ?_)
  subst hx
  unfold wX8_isFull at h
  refine g_aload_n (np := 1) B.1 dX8_isFull_0 rfl rfl ?_
  refine gf_YScript_12_11 (np := 4) B.1 dX8_isFull_1 rfl ?_
  refine gc_YScript_28 (np := 7) B 0 (cb (by decide : (0 : Nat) < 2)) (oJ4_length_8abf5 B.1.tr 0 (cb (by decide : (0 : Nat) < 2))   _ _ _ h) (Nat.le_of_ble_eq_true rfl) (Nat.le_of_ble_eq_true rfl) (Nat.le_of_ble_eq_true rfl) (Nat.le_of_ble_eq_true rfl) (Nat.le_of_ble_eq_true rfl) dX8_isFull_4 rfl (fun r1 s2 h => ?_)
  obtain ⟨es2, h⟩ := h
  rw [es2]
  refine g_bipush (np := 9) (v := 60) B.1 dX8_isFull_7 (by decide) rfl ?_
  refine g_icmp_lt (np := 12) (tgt := 16) B.1 dX8_isFull_9 (by decide) rfl (fun q => ?_) (fun q => ?_)
  · replace h := h.1 q
    refine g_iconst (np := 17) (v := 0) B.1 dX8_isFull_16 (by decide) rfl ?_
    exact g_iret B (ty := .boolean) rfl (by decide) (Nat.le_of_ble_eq_true rfl) (Nat.le_of_ble_eq_true rfl) dX8_isFull_17 ⟨_, rfl, h⟩
  · replace h := h.2 q
    refine g_iconst (np := 13) (v := 1) B.1 dX8_isFull_12 (by decide) rfl ?_
    refine g_goto (tgt := 17) B.1 dX8_isFull_13 (by decide) ?_
    exact g_iret B (ty := .boolean) rfl (by decide) (Nat.le_of_ble_eq_true rfl) (Nat.le_of_ble_eq_true rfl) dX8_isFull_17 ⟨_, rfl, h⟩
def wX8_append  (a1 : Int32) (s0 : Mem) (Q : Int32 → Mem → Prop) (E : String → Mem → Prop) : Prop := wJ4_append_cf468 0 a1 s0 (fun (s2 : Mem) => wJ4_length_8abf5 0  s2 (fun (r3 : Int32) (s4 : Mem) => s4 = s2 ∧ Q r3 s2) E) E
set_option maxRecDepth 20000 in
set_option maxHeartbeats 4000000 in
theorem oX8_append {l : Launch} {x : Ctx} (hl : l.stackTraces = false)   (a1 : Int32)  (s0 : Mem) (Q : Int32 → Mem → Prop) (E : String → Mem → Prop) (h : wX8_append  a1 s0 Q E) : MetG l x yX8_append cX8_append 2 (some .int) 9 264 1 302 [.ref (xad x 11 0), .int a1] s0 (RI Q) E := by
  refine MetG.of hl (by decide) (Nat.le_of_ble_eq_true rfl) [some (.ref (xad x 11 0)), some (.int a1)] rfl (fun K B hx _ => ?_)
  subst hx
  unfold wX8_append at h
  refine g_aload_n (np := 1) B.1 dX8_append_0 rfl rfl ?_
  refine gf_YScript_12_11 (np := 4) B.1 dX8_append_1 rfl ?_
  refine g_iload_n (np := 5) B.1 dX8_append_4 rfl rfl ?_
  refine gc_YScript_32 (np := 8) B 0 (cb (by decide : (0 : Nat) < 2)) (oJ4_append_cf468 B.1.tr 0 (cb (by decide : (0 : Nat) < 2)) a1  _ _ _ h) (Nat.le_of_ble_eq_true rfl) (Nat.le_of_ble_eq_true rfl) (Nat.le_of_ble_eq_true rfl) (Nat.le_of_ble_eq_true rfl) (Nat.le_of_ble_eq_true rfl) dX8_append_5 rfl (fun s2 h => ?_)
  refine g_pop (np := 9) B.1 dX8_append_8 rfl rfl ?_
  refine g_aload_n (np := 10) B.1 dX8_append_9 rfl rfl ?_
  refine gf_YScript_12_11 (np := 13) B.1 dX8_append_10 rfl ?_
  refine gc_YScript_28 (np := 16) B 0 (cb (by decide : (0 : Nat) < 2)) (oJ4_length_8abf5 B.1.tr 0 (cb (by decide : (0 : Nat) < 2))   _ _ _ h) (Nat.le_of_ble_eq_true rfl) (Nat.le_of_ble_eq_true rfl) (Nat.le_of_ble_eq_true rfl) (Nat.le_of_ble_eq_true rfl) (Nat.le_of_ble_eq_true rfl) dX8_append_13 rfl (fun r3 s4 h => ?_)
  obtain ⟨es4, h⟩ := h
  rw [es4]
  exact g_iret B (ty := .int) rfl rfl (Nat.le_of_ble_eq_true rfl) (Nat.le_of_ble_eq_true rfl) dX8_append_16 ⟨_, rfl, h⟩
def wX8_empty   (s0 : Mem) (Q : Mem → Prop) (E : String → Mem → Prop) : Prop := wJ4_setLength_d00df 0 0 s0 (fun (s2 : Mem) => Q s2) E
set_option maxRecDepth 20000 in
set_option maxHeartbeats 4000000 in
theorem oX8_empty {l : Launch} {x : Ctx} (hl : l.stackTraces = false)     (s0 : Mem) (Q : Mem → Prop) (E : String → Mem → Prop) (h : wX8_empty   s0 Q E) : MetG l x yX8_empty cX8_empty 1 none 9 264 1 302 [.ref (xad x 11 0)] s0 (RV Q) E := by
  refine MetG.of hl (by decide) (Nat.le_of_ble_eq_true rfl) [some (.ref (xad x 11 0))] rfl (fun K B hx _ => ?_)
  subst hx
  unfold wX8_empty at h
  refine g_aload_n (np := 1) B.1 dX8_empty_0 rfl rfl ?_
  refine gf_YScript_12_11 (np := 4) B.1 dX8_empty_1 rfl ?_
  refine g_iconst (np := 5) (v := 0) B.1 dX8_empty_4 (by decide) rfl ?_
  refine gc_YScript_36 (np := 8) B 0 (cb (by decide : (0 : Nat) < 2)) (oJ4_setLength_d00df B.1.tr 0 (cb (by decide : (0 : Nat) < 2)) 0  _ _ _ h) (Nat.le_of_ble_eq_true rfl) (Nat.le_of_ble_eq_true rfl) (Nat.le_of_ble_eq_true rfl) (Nat.le_of_ble_eq_true rfl) (Nat.le_of_ble_eq_true rfl) dX8_empty_5 rfl (fun s2 h => ?_)
  exact g_vret B rfl (Nat.le_of_ble_eq_true rfl) (Nat.le_of_ble_eq_true rfl) dX8_empty_8 ⟨rfl, h⟩
def wX8_count   (s0 : Mem) (Q : Int32 → Mem → Prop) (E : String → Mem → Prop) : Prop := Q (rd s0 11 0 3) s0
set_option maxRecDepth 20000 in
set_option maxHeartbeats 4000000 in
theorem oX8_count {l : Launch} {x : Ctx} (hl : l.stackTraces = false)     (s0 : Mem) (Q : Int32 → Mem → Prop) (E : String → Mem → Prop) (h : wX8_count   s0 Q E) : MetG l x yX8_count cX8_count 1 (some .int) 0 0 0 0 [.ref (xad x 11 0)] s0 (RI Q) E := by
  refine MetG.of hl (by decide) (Nat.le_of_ble_eq_true rfl) [some (.ref (xad x 11 0))] rfl (fun K B hx _ => ?_)
  subst hx
  unfold wX8_count at h
  refine g_aload_n (np := 1) B.1 dX8_count_0 rfl rfl ?_
  refine gf_YScript_40_11 (np := 4) B.1 dX8_count_1 rfl ?_
  exact g_iret B (ty := .int) rfl rfl (Nat.le_of_ble_eq_true rfl) (Nat.le_of_ble_eq_true rfl) dX8_count_4 ⟨_, rfl, h⟩
def wX8_commandAt  (a1 : Int32) (s0 : Mem) (Q : Option Nat → Mem → Prop) (E : String → Mem → Prop) : Prop := ((a1 < 0 → Q (none) s0) ∧ (¬ a1 < 0 → ((60 ≤ a1 → Q (none) s0) ∧ (¬ 60 ≤ a1 → vp_in a1 60 ∧ (∀ j, cmdO (rd s0 12 0 a1.toNatClampNeg) = some j → j < 9) ∧ ∀ o1 : Option Nat, o1 = cmdO (rd s0 12 0 a1.toNatClampNeg) → ((o1 = none → Q (none) s0) ∧ (∀ j2 : Nat, o1 = some j2 → Q (some j2) s0))))))
set_option maxRecDepth 20000 in
set_option maxHeartbeats 4000000 in
theorem oX8_commandAt {l : Launch} {x : Ctx} (hl : l.stackTraces = false)   (a1 : Int32)  (s0 : Mem) (Q : Option Nat → Mem → Prop) (E : String → Mem → Prop) (h : wX8_commandAt  a1 s0 Q E) : MetG l x yX8_commandAt cX8_commandAt 2 (some (.object "YarnMill$Command")) 0 0 0 0 [.ref (xad x 11 0), .int a1] s0 (RC x Q) E := by
  refine MetG.of hl (by decide) (Nat.le_of_ble_eq_true rfl) [some (.ref (xad x 11 0)), some (.int a1)] rfl (fun K B hx _ => ?_)
  subst hx
  unfold wX8_commandAt at h
  refine g_iload_n (np := 1) B.1 dX8_commandAt_0 rfl rfl ?_
  refine g_if_lt (np := 4) (tgt := 22) B.1 dX8_commandAt_1 (by decide) rfl (fun q => ?_) (fun q => ?_)
  · replace h := h.1 q
    refine g_null (np := 23) B.1 dX8_commandAt_22 rfl ?_
    exact g_aret B rfl (Or.inl ⟨_, rfl⟩) (Or.inl rfl) (Nat.le_of_ble_eq_true rfl) (Nat.le_of_ble_eq_true rfl) dX8_commandAt_23 ⟨none, rfl, (fun _ q => by cases q), h⟩
  · replace h := h.2 q
    refine g_iload_n (np := 5) B.1 dX8_commandAt_4 rfl rfl ?_
    refine g_aload_n (np := 6) B.1 dX8_commandAt_5 rfl rfl ?_
    refine gf_YScript_20_11 (np := 9) B.1 dX8_commandAt_6 rfl ?_
    refine g_alen (np := 10) B.1 12 0 (by decide : (0 : Nat) < 1) rfl rfl (t0 := 5) rfl (v := 60) (by show Int32.ofNat 60 = 60; decide) dX8_commandAt_9 rfl ?_
    refine g_icmp_ge (np := 13) (tgt := 22) B.1 dX8_commandAt_10 (by decide) rfl (fun q => ?_) (fun q => ?_)
    · replace h := h.1 q
      refine g_null (np := 23) B.1 dX8_commandAt_22 rfl ?_
      exact g_aret B rfl (Or.inl ⟨_, rfl⟩) (Or.inl rfl) (Nat.le_of_ble_eq_true rfl) (Nat.le_of_ble_eq_true rfl) dX8_commandAt_23 ⟨none, rfl, (fun _ q => by cases q), h⟩
    · replace h := h.2 q
      refine g_aload_n (np := 14) B.1 dX8_commandAt_13 rfl rfl ?_
      refine gf_YScript_20_11 (np := 17) B.1 dX8_commandAt_14 rfl ?_
      refine g_iload_n (np := 18) B.1 dX8_commandAt_17 rfl rfl ?_
      have ho1 := h.2.1
      refine g_cmdLd (np := 19) B.1 h.1 dX8_commandAt_18 rfl ?_
      generalize eo1 : cmdO (rd s0 12 0 a1.toNatClampNeg) = o1 at ho1 ⊢
      replace h := h.2.2 o1 eo1.symm
      clear eo1
      rcases o1 with _ | j2
      · replace h := h.1 rfl
        refine Go.eq rfl rfl rfl (st' := .null :: []) rfl ?_
        refine g_goto (tgt := 23) B.1 dX8_commandAt_19 (by decide) ?_
        exact g_aret B rfl (Or.inl ⟨_, rfl⟩) (Or.inl rfl) (Nat.le_of_ble_eq_true rfl) (Nat.le_of_ble_eq_true rfl) dX8_commandAt_23 ⟨none, rfl, (fun _ q => by cases q), h⟩
      · replace h := h.2 j2 rfl
        have hj2 : j2 < 9 := ho1 j2 rfl
        refine Go.eq rfl rfl rfl (st' := .ref (xen (fX K) 0 j2) :: []) rfl ?_
        refine g_goto (tgt := 23) B.1 dX8_commandAt_19 (by decide) ?_
        exact g_aret B rfl (Or.inl ⟨_, rfl⟩) (Or.inr ⟨_, rfl⟩) (Nat.le_of_ble_eq_true rfl) (Nat.le_of_ble_eq_true rfl) dX8_commandAt_23 ⟨some j2, rfl, (fun _ q => by cases q; exact hj2), h⟩
def wX8_numberAt  (a1 : Int32) (a2 : Int32) (s0 : Mem) (Q : Int32 → Mem → Prop) (E : String → Mem → Prop) : Prop := ∀ v3_1 : Int32, v3_1 = ((a1 * 3) + a2) → ((v3_1 < 0 → Q 0 s0) ∧ (¬ v3_1 < 0 → ((nI (iaLen 7) ≤ v3_1 → Q 0 s0) ∧ (¬ nI (iaLen 7) ≤ v3_1 → vp_in v3_1 (iaLen 7) ∧ Q (rd s0 10 7 v3_1.toNatClampNeg) s0))))
set_option maxRecDepth 20000 in
set_option maxHeartbeats 4000000 in
theorem oX8_numberAt {l : Launch} {x : Ctx} (hl : l.stackTraces = false)   (a1 : Int32) (a2 : Int32)  (s0 : Mem) (Q : Int32 → Mem → Prop) (E : String → Mem → Prop) (h : wX8_numberAt  a1 a2 s0 Q E) : MetG l x yX8_numberAt cX8_numberAt 4 (some .int) 0 0 0 0 [.ref (xad x 11 0), .int a1, .int a2] s0 (RI Q) E := by
  refine MetG.of hl (by decide) (Nat.le_of_ble_eq_true rfl) [some (.ref (xad x 11 0)), some (.int a1), some (.int a2), none] rfl (fun K B hx _ => ?_)
  subst hx
  unfold wX8_numberAt at h
  refine g_iload_n (np := 1) B.1 dX8_numberAt_0 rfl rfl ?_
  refine g_iconst (np := 2) (v := 3) B.1 dX8_numberAt_1 (by decide) rfl ?_
  refine g_imul (np := 3) B.1 dX8_numberAt_2 rfl ?_
  refine g_iload_n (np := 4) B.1 dX8_numberAt_3 rfl rfl ?_
  refine g_iadd (np := 5) B.1 dX8_numberAt_4 rfl ?_
  refine g_topi (fun v3_1 ev3_1 => ?_)
  replace h := h v3_1 ev3_1
  refine g_istore_n (np := 6) (lv' := [some (.ref (xad (fX K) 11 0)), some (.int a1), some (.int a2), some (.int v3_1)]) B.1 dX8_numberAt_5 (by decide) rfl rfl rfl ?_
  refine g_iload_n (np := 7) B.1 dX8_numberAt_6 rfl rfl ?_
  refine g_if_lt (np := 10) (tgt := 28) B.1 dX8_numberAt_7 (by decide) rfl (fun q => ?_) (fun q => ?_)
  · replace h := h.1 q
    refine g_iconst (np := 29) (v := 0) B.1 dX8_numberAt_28 (by decide) rfl ?_
    exact g_iret B (ty := .int) rfl rfl (Nat.le_of_ble_eq_true rfl) (Nat.le_of_ble_eq_true rfl) dX8_numberAt_29 ⟨_, rfl, h⟩
  · replace h := h.2 q
    refine g_iload_n (np := 11) B.1 dX8_numberAt_10 rfl rfl ?_
    refine g_aload_n (np := 12) B.1 dX8_numberAt_11 rfl rfl ?_
    refine gf_YScript_24_11 (np := 15) B.1 dX8_numberAt_12 rfl ?_
    refine g_alen (np := 16) B.1 10 7 (by decide : (7 : Nat) < 8) rfl rfl (t0 := 0) rfl (v := nI (iaLen 7)) rfl dX8_numberAt_15 rfl ?_
    refine g_icmp_ge (np := 19) (tgt := 28) B.1 dX8_numberAt_16 (by decide) rfl (fun q => ?_) (fun q => ?_)
    · replace h := h.1 q
      refine g_iconst (np := 29) (v := 0) B.1 dX8_numberAt_28 (by decide) rfl ?_
      exact g_iret B (ty := .int) rfl rfl (Nat.le_of_ble_eq_true rfl) (Nat.le_of_ble_eq_true rfl) dX8_numberAt_29 ⟨_, rfl, h⟩
    · replace h := h.2 q
      refine g_aload_n (np := 20) B.1 dX8_numberAt_19 rfl rfl ?_
      refine gf_YScript_24_11 (np := 23) B.1 dX8_numberAt_20 rfl ?_
      refine g_iload_n (np := 24) B.1 dX8_numberAt_23 rfl rfl ?_
      refine g_iald (np := 25) B.1 10 7 (by decide : (7 : Nat) < 8) rfl rfl h.1 dX8_numberAt_24 rfl ?_
      replace h := h.2
      refine g_goto (tgt := 29) B.1 dX8_numberAt_25 (by decide) ?_
      exact g_iret B (ty := .int) rfl rfl (Nat.le_of_ble_eq_true rfl) (Nat.le_of_ble_eq_true rfl) dX8_numberAt_29 ⟨_, rfl, h⟩
def wX8_isSign  (a1 : Int32) (a2 : Int32) (s0 : Mem) (Q : Int32 → Mem → Prop) (E : String → Mem → Prop) : Prop := wJ4_length_8abf5 0  s0 (fun (r1 : Int32) (s2 : Mem) => s2 = s0 ∧ ((r1 ≤ a1 → Q 0 s0) ∧ (¬ r1 ≤ a1 → wJ4_charAt_5068e 0 a1 s0 (fun (r3 : Int32) (s4 : Mem) => s4 = s0 ∧ ((¬ r3 = a2 → Q 0 s0) ∧ (r3 = a2 → Q 1 s0))) E))) E
set_option maxRecDepth 20000 in
set_option maxHeartbeats 4000000 in
theorem oX8_isSign {l : Launch} {x : Ctx} (hl : l.stackTraces = false)   (a1 : Int32) (a2 : Int32)  (s0 : Mem) (Q : Int32 → Mem → Prop) (E : String → Mem → Prop) (h : wX8_isSign  a1 a2 s0 Q E) : MetG l x yX8_isSign cX8_isSign 3 (some .boolean) 4 96 0 0 [.ref (xad x 11 0), .int a1, .int a2] s0 (RI Q) E := by
  refine MetG.of hl (by decide) (Nat.le_of_ble_eq_true rfl) [some (.ref (xad x 11 0)), some (.int a1), some (.int a2)] rfl (fun K B hx _ => ?_)
  subst hx
  unfold wX8_isSign at h
  refine g_iload_n (np := 1) B.1 dX8_isSign_0 rfl rfl ?_
  refine g_aload_n (np := 2) B.1 dX8_isSign_1 rfl rfl ?_
  refine gf_YScript_12_11 (np := 5) B.1 dX8_isSign_2 rfl ?_
  refine gc_YScript_28 (np := 8) B 0 (cb (by decide : (0 : Nat) < 2)) (oJ4_length_8abf5 B.1.tr 0 (cb (by decide : (0 : Nat) < 2))   _ _ _ h) (Nat.le_of_ble_eq_true rfl) (Nat.le_of_ble_eq_true rfl) (Nat.le_of_ble_eq_true rfl) (Nat.le_of_ble_eq_true rfl) (Nat.le_of_ble_eq_true rfl) dX8_isSign_5 rfl (fun r1 s2 h => ?_)
  obtain ⟨es2, h⟩ := h
  rw [es2]
  refine g_icmp_ge (np := 11) (tgt := 27) B.1 dX8_isSign_8 (by decide) rfl (fun q => ?_) (fun q => ?_)
  · replace h := h.1 q
    refine g_iconst (np := 28) (v := 0) B.1 dX8_isSign_27 (by decide) rfl ?_
    exact g_iret B (ty := .boolean) rfl (by decide) (Nat.le_of_ble_eq_true rfl) (Nat.le_of_ble_eq_true rfl) dX8_isSign_28 ⟨_, rfl, h⟩
  · replace h := h.2 q
    refine g_aload_n (np := 12) B.1 dX8_isSign_11 rfl rfl ?_
    refine gf_YScript_12_11 (np := 15) B.1 dX8_isSign_12 rfl ?_
    refine g_iload_n (np := 16) B.1 dX8_isSign_15 rfl rfl ?_
    refine gc_YScript_100 (np := 19) B 0 (cb (by decide : (0 : Nat) < 2)) (oJ4_charAt_5068e B.1.tr 0 (cb (by decide : (0 : Nat) < 2)) a1  _ _ _ h) (Nat.le_of_ble_eq_true rfl) (Nat.le_of_ble_eq_true rfl) (Nat.le_of_ble_eq_true rfl) (Nat.le_of_ble_eq_true rfl) (Nat.le_of_ble_eq_true rfl) dX8_isSign_16 rfl (fun r3 s4 h => ?_)
    obtain ⟨es4, h⟩ := h
    rw [es4]
    refine g_iload_n (np := 20) B.1 dX8_isSign_19 rfl rfl ?_
    refine g_icmp_ne (np := 23) (tgt := 27) B.1 dX8_isSign_20 (by decide) rfl (fun q => ?_) (fun q => ?_)
    · replace h := h.1 q
      refine g_iconst (np := 28) (v := 0) B.1 dX8_isSign_27 (by decide) rfl ?_
      exact g_iret B (ty := .boolean) rfl (by decide) (Nat.le_of_ble_eq_true rfl) (Nat.le_of_ble_eq_true rfl) dX8_isSign_28 ⟨_, rfl, h⟩
    · replace h := h.2 q
      refine g_iconst (np := 24) (v := 1) B.1 dX8_isSign_23 (by decide) rfl ?_
      refine g_goto (tgt := 28) B.1 dX8_isSign_24 (by decide) ?_
      exact g_iret B (ty := .boolean) rfl (by decide) (Nat.le_of_ble_eq_true rfl) (Nat.le_of_ble_eq_true rfl) dX8_isSign_28 ⟨_, rfl, h⟩
def wX8_isDigit  (a1 : Int32) (s0 : Mem) (Q : Int32 → Mem → Prop) (E : String → Mem → Prop) : Prop := wJ4_length_8abf5 0  s0 (fun (r1 : Int32) (s2 : Mem) => s2 = s0 ∧ ((r1 ≤ a1 → Q 0 s0) ∧ (¬ r1 ≤ a1 → wJ4_charAt_5068e 0 a1 s0 (fun (r3 : Int32) (s4 : Mem) => s4 = s0 ∧ ((r3 < 48 → Q 0 s0) ∧ (¬ r3 < 48 → wJ4_charAt_5068e 0 a1 s0 (fun (r5 : Int32) (s6 : Mem) => s6 = s0 ∧ ((57 < r5 → Q 0 s0) ∧ (¬ 57 < r5 → Q 1 s0))) E))) E))) E
set_option maxRecDepth 20000 in
set_option maxHeartbeats 4000000 in
theorem oX8_isDigit {l : Launch} {x : Ctx} (hl : l.stackTraces = false)   (a1 : Int32)  (s0 : Mem) (Q : Int32 → Mem → Prop) (E : String → Mem → Prop) (h : wX8_isDigit  a1 s0 Q E) : MetG l x yX8_isDigit cX8_isDigit 2 (some .boolean) 4 96 0 0 [.ref (xad x 11 0), .int a1] s0 (RI Q) E := by
  refine MetG.of hl (by decide) (Nat.le_of_ble_eq_true rfl) [some (.ref (xad x 11 0)), some (.int a1)] rfl (fun K B hx _ => ?_)
  subst hx
  unfold wX8_isDigit at h
  refine g_iload_n (np := 1) B.1 dX8_isDigit_0 rfl rfl ?_
  refine g_aload_n (np := 2) B.1 dX8_isDigit_1 rfl rfl ?_
  refine gf_YScript_12_11 (np := 5) B.1 dX8_isDigit_2 rfl ?_
  refine gc_YScript_28 (np := 8) B 0 (cb (by decide : (0 : Nat) < 2)) (oJ4_length_8abf5 B.1.tr 0 (cb (by decide : (0 : Nat) < 2))   _ _ _ h) (Nat.le_of_ble_eq_true rfl) (Nat.le_of_ble_eq_true rfl) (Nat.le_of_ble_eq_true rfl) (Nat.le_of_ble_eq_true rfl) (Nat.le_of_ble_eq_true rfl) dX8_isDigit_5 rfl (fun r1 s2 h => ?_)
  obtain ⟨es2, h⟩ := h
  rw [es2]
  refine g_icmp_ge (np := 11) (tgt := 41) B.1 dX8_isDigit_8 (by decide) rfl (fun q => ?_) (fun q => ?_)
  · replace h := h.1 q
    refine g_iconst (np := 42) (v := 0) B.1 dX8_isDigit_41 (by decide) rfl ?_
    exact g_iret B (ty := .boolean) rfl (by decide) (Nat.le_of_ble_eq_true rfl) (Nat.le_of_ble_eq_true rfl) dX8_isDigit_42 ⟨_, rfl, h⟩
  · replace h := h.2 q
    refine g_aload_n (np := 12) B.1 dX8_isDigit_11 rfl rfl ?_
    refine gf_YScript_12_11 (np := 15) B.1 dX8_isDigit_12 rfl ?_
    refine g_iload_n (np := 16) B.1 dX8_isDigit_15 rfl rfl ?_
    refine gc_YScript_100 (np := 19) B 0 (cb (by decide : (0 : Nat) < 2)) (oJ4_charAt_5068e B.1.tr 0 (cb (by decide : (0 : Nat) < 2)) a1  _ _ _ h) (Nat.le_of_ble_eq_true rfl) (Nat.le_of_ble_eq_true rfl) (Nat.le_of_ble_eq_true rfl) (Nat.le_of_ble_eq_true rfl) (Nat.le_of_ble_eq_true rfl) dX8_isDigit_16 rfl (fun r3 s4 h => ?_)
    obtain ⟨es4, h⟩ := h
    rw [es4]
    refine g_bipush (np := 21) (v := 48) B.1 dX8_isDigit_19 (by decide) rfl ?_
    refine g_icmp_lt (np := 24) (tgt := 41) B.1 dX8_isDigit_21 (by decide) rfl (fun q => ?_) (fun q => ?_)
    · replace h := h.1 q
      refine g_iconst (np := 42) (v := 0) B.1 dX8_isDigit_41 (by decide) rfl ?_
      exact g_iret B (ty := .boolean) rfl (by decide) (Nat.le_of_ble_eq_true rfl) (Nat.le_of_ble_eq_true rfl) dX8_isDigit_42 ⟨_, rfl, h⟩
    · replace h := h.2 q
      refine g_aload_n (np := 25) B.1 dX8_isDigit_24 rfl rfl ?_
      refine gf_YScript_12_11 (np := 28) B.1 dX8_isDigit_25 rfl ?_
      refine g_iload_n (np := 29) B.1 dX8_isDigit_28 rfl rfl ?_
      refine gc_YScript_100 (np := 32) B 0 (cb (by decide : (0 : Nat) < 2)) (oJ4_charAt_5068e B.1.tr 0 (cb (by decide : (0 : Nat) < 2)) a1  _ _ _ h) (Nat.le_of_ble_eq_true rfl) (Nat.le_of_ble_eq_true rfl) (Nat.le_of_ble_eq_true rfl) (Nat.le_of_ble_eq_true rfl) (Nat.le_of_ble_eq_true rfl) dX8_isDigit_29 rfl (fun r5 s6 h => ?_)
      obtain ⟨es6, h⟩ := h
      rw [es6]
      refine g_bipush (np := 34) (v := 57) B.1 dX8_isDigit_32 (by decide) rfl ?_
      refine g_icmp_gt (np := 37) (tgt := 41) B.1 dX8_isDigit_34 (by decide) rfl (fun q => ?_) (fun q => ?_)
      · replace h := h.1 q
        refine g_iconst (np := 42) (v := 0) B.1 dX8_isDigit_41 (by decide) rfl ?_
        exact g_iret B (ty := .boolean) rfl (by decide) (Nat.le_of_ble_eq_true rfl) (Nat.le_of_ble_eq_true rfl) dX8_isDigit_42 ⟨_, rfl, h⟩
      · replace h := h.2 q
        refine g_iconst (np := 38) (v := 1) B.1 dX8_isDigit_37 (by decide) rfl ?_
        refine g_goto (tgt := 42) B.1 dX8_isDigit_38 (by decide) ?_
        exact g_iret B (ty := .boolean) rfl (by decide) (Nat.le_of_ble_eq_true rfl) (Nat.le_of_ble_eq_true rfl) dX8_isDigit_42 ⟨_, rfl, h⟩
def wX8_readSign  (a1 : Int32) (s0 : Mem) (Q : Int32 → Mem → Prop) (E : String → Mem → Prop) : Prop := wX8_isSign  (rd s0 11 0 4) a1 s0 (fun (r1 : Int32) (s2 : Mem) => ((¬ r1 = 0 → ∀ s3 : Mem, s3 = wr s2 11 0 4 ((rd s2 11 0 4) + 1) → Q 1 s3) ∧ (r1 = 0 → Q 0 s2))) E
set_option maxRecDepth 20000 in
set_option maxHeartbeats 4000000 in
theorem oX8_readSign {l : Launch} {x : Ctx} (hl : l.stackTraces = false)   (a1 : Int32)  (s0 : Mem) (Q : Int32 → Mem → Prop) (E : String → Mem → Prop) (h : wX8_readSign  a1 s0 Q E) : MetG l x yX8_readSign cX8_readSign 2 (some .boolean) 5 118 0 0 [.ref (xad x 11 0), .int a1] s0 (RI Q) E := by
  refine MetG.of hl (by decide) (Nat.le_of_ble_eq_true rfl) [some (.ref (xad x 11 0)), some (.int a1)] rfl (fun K B hx _ => ?_)
  subst hx
  unfold wX8_readSign at h
  refine g_aload_n (np := 1) B.1 dX8_readSign_0 rfl rfl ?_
  refine g_aload_n (np := 2) B.1 dX8_readSign_1 rfl rfl ?_
  refine gf_YScript_44_11 (np := 5) B.1 dX8_readSign_2 rfl ?_
  refine g_iload_n (np := 6) B.1 dX8_readSign_5 rfl rfl ?_
  refine gc_YScript_92 (np := 9) B   (oX8_isSign B.1.tr   (rd s0 11 0 4) a1  _ _ _ h) (Nat.le_of_ble_eq_true rfl) (Nat.le_of_ble_eq_true rfl) (Nat.le_of_ble_eq_true rfl) (Nat.le_of_ble_eq_true rfl) (Nat.le_of_ble_eq_true rfl) dX8_readSign_6 rfl (fun r1 s2 h => ?_)
  refine g_if_ne (np := 12) (tgt := 14) B.1 dX8_readSign_9 (by decide) rfl (fun q => ?_) (fun q => ?_)
  · replace h := h.1 q
    refine g_aload_n (np := 15) B.1 dX8_readSign_14 rfl rfl ?_
    refine g_dup (np := 16) B.1 dX8_readSign_15 rfl rfl ?_
    refine gf_YScript_44_11 (np := 19) B.1 dX8_readSign_16 rfl ?_
    refine g_iconst (np := 20) (v := 1) B.1 dX8_readSign_19 (by decide) rfl ?_
    refine g_iadd (np := 21) B.1 dX8_readSign_20 rfl ?_
    refine gp_YScript_44_11 (np := 24) B.1 dX8_readSign_21 rfl ?_
    refine g_mem (fun s3 es3 => ?_)
    replace h := h s3 es3
    refine g_iconst (np := 25) (v := 1) B.1 dX8_readSign_24 (by decide) rfl ?_
    exact g_iret B (ty := .boolean) rfl (by decide) (Nat.le_of_ble_eq_true rfl) (Nat.le_of_ble_eq_true rfl) dX8_readSign_25 ⟨_, rfl, h⟩
  · replace h := h.2 q
    refine g_iconst (np := 13) (v := 0) B.1 dX8_readSign_12 (by decide) rfl ?_
    exact g_iret B (ty := .boolean) rfl (by decide) (Nat.le_of_ble_eq_true rfl) (Nat.le_of_ble_eq_true rfl) dX8_readSign_13 ⟨_, rfl, h⟩
def wX8_readNumber_5   (Q : Int32 → Mem → Prop) (E : String → Mem → Prop)  (X58 : Int32 → Int32 → Int32 → Mem → Prop) : Nat → Int32 → Int32 → Int32 → Int32 → Mem → Prop
  | 0, _, _, _, _, _ => False
  | n5 + 1, v1, v2, v3, v4, s0 => ((v2 ≤ v4 → X58 v1 v3 v4 s0) ∧ (¬ v2 ≤ v4 → wX8_isDigit  (rd s0 11 0 4) s0 (fun (r1 : Int32) (s2 : Mem) => ((r1 = 0 → X58 v1 v3 v4 s2) ∧ (¬ r1 = 0 → wJ4_charAt_5068e 0 (rd s2 11 0 4) s2 (fun (r3 : Int32) (s4 : Mem) => s4 = s2 ∧ ∀ v3_5 : Int32, v3_5 = ((v3 * 10) + (r3 - 48)) → ∀ s6 : Mem, s6 = wr s2 11 0 4 ((rd s2 11 0 4) + 1) → ∀ v4_7 : Int32, v4_7 = (v4 + 1) → wX8_readNumber_5   Q E X58 n5 v1 v2 v3_5 v4_7 s6) E))) E))
def wX8_readNumber  (a1 : Int32) (a2 : Int32) (s0 : Mem) (Q : Int32 → Mem → Prop) (E : String → Mem → Prop) : Prop := ∃ m13 : Nat, wX8_readNumber_5   Q E (fun (x1_8 : Int32) (x3_9 : Int32) (x4_10 : Int32) (s11 : Mem) => ((x4_10 = 0 → Q 0 s11) ∧ (¬ x4_10 = 0 → ((x1_8 < nI (iaLen 7) → vp_in x1_8 (iaLen 7) ∧ ∀ s12 : Mem, s12 = wr s11 10 7 x1_8.toNatClampNeg x3_9 → Q 1 s12) ∧ (¬ x1_8 < nI (iaLen 7) → Q 0 s11))))) m13 a1 a2 0 0  s0
set_option maxRecDepth 20000 in
set_option maxHeartbeats 4000000 in
theorem oX8_readNumber_5 {K : Fr} {Q : Int32 → Mem → Prop} {E : String → Mem → Prop} (B : Bd K cX8_readNumber "YarnMill$Script" 5 (some .boolean) 5 117 0 0 (RI Q) E)    {X58 : Int32 → Int32 → Int32 → Mem → Prop} {cells slots : Nat} (hX58 : ∀ (y1 : Int32) (y3 : Int32) (y4 : Int32) (τ : Mem), X58 y1 y3 y4 τ → Go K cells slots τ 58 [some (.ref (xad (fX K) 11 0)), some (.int y1), none, some (.int y3), some (.int y4)] ([])) (hc : cells ≤ 0) (hs : slots ≤ 0) : ∀ (n : Nat) (v1 : Int32) (v2 : Int32) (v3 : Int32) (v4 : Int32) (s0 : Mem), wX8_readNumber_5   Q E X58 n v1 v2 v3 v4 s0 → Go K cells slots s0 5 [some (.ref (xad (fX K) 11 0)), some (.int v1), some (.int v2), some (.int v3), some (.int v4)] ([]) := by
  intro n
  induction n with
  | zero => intro v1 v2 v3 v4 s0 h; exact absurd h (by simp [wX8_readNumber_5])
  | succ n ih =>
    intro v1 v2 v3 v4 s0 h
    simp only [wX8_readNumber_5] at h
    refine g_iload (np := 7) B.1 dX8_readNumber_5 rfl rfl ?_
    refine g_iload_n (np := 8) B.1 dX8_readNumber_7 rfl rfl ?_
    refine g_icmp_ge (np := 11) (tgt := 58) B.1 dX8_readNumber_8 (by decide) rfl (fun q => ?_) (fun q => ?_)
    · replace h := h.1 q
      refine Go.lle [some (.ref (xad (fX K) 11 0)), some (.int v1), none, some (.int v3), some (.int v4)] (by simp [lle]) ?_
      exact hX58 v1 v3 v4 s0 h
    · replace h := h.2 q
      refine g_aload_n (np := 12) B.1 dX8_readNumber_11 rfl rfl ?_
      refine g_aload_n (np := 13) B.1 dX8_readNumber_12 rfl rfl ?_
      refine gf_YScript_44_11 (np := 16) B.1 dX8_readNumber_13 rfl ?_
      refine gc_YScript_96 (np := 19) B   (oX8_isDigit B.1.tr   (rd s0 11 0 4)  _ _ _ h) (Nat.le_of_ble_eq_true rfl) (Nat.le_of_ble_eq_true rfl) (Nat.le_of_ble_eq_true rfl) hc hs dX8_readNumber_16 rfl (fun r1 s2 h => ?_)
      refine g_if_eq (np := 22) (tgt := 58) B.1 dX8_readNumber_19 (by decide) rfl (fun q => ?_) (fun q => ?_)
      · replace h := h.1 q
        refine Go.lle [some (.ref (xad (fX K) 11 0)), some (.int v1), none, some (.int v3), some (.int v4)] (by simp [lle]) ?_
        exact hX58 v1 v3 v4 s2 h
      · replace h := h.2 q
        refine g_iload_n (np := 23) B.1 dX8_readNumber_22 rfl rfl ?_
        refine g_bipush (np := 25) (v := 10) B.1 dX8_readNumber_23 (by decide) rfl ?_
        refine g_imul (np := 26) B.1 dX8_readNumber_25 rfl ?_
        refine g_aload_n (np := 27) B.1 dX8_readNumber_26 rfl rfl ?_
        refine gf_YScript_12_11 (np := 30) B.1 dX8_readNumber_27 rfl ?_
        refine g_aload_n (np := 31) B.1 dX8_readNumber_30 rfl rfl ?_
        refine gf_YScript_44_11 (np := 34) B.1 dX8_readNumber_31 rfl ?_
        refine gc_YScript_100 (np := 37) B 0 (cb (by decide : (0 : Nat) < 2)) (oJ4_charAt_5068e B.1.tr 0 (cb (by decide : (0 : Nat) < 2)) (rd s2 11 0 4)  _ _ _ h) (Nat.le_of_ble_eq_true rfl) (Nat.le_of_ble_eq_true rfl) (Nat.le_of_ble_eq_true rfl) hc hs dX8_readNumber_34 rfl (fun r3 s4 h => ?_)
        obtain ⟨es4, h⟩ := h
        rw [es4]
        refine g_bipush (np := 39) (v := 48) B.1 dX8_readNumber_37 (by decide) rfl ?_
        refine g_isub (np := 40) B.1 dX8_readNumber_39 rfl ?_
        refine g_iadd (np := 41) B.1 dX8_readNumber_40 rfl ?_
        refine g_topi (fun v3_5 ev3_5 => ?_)
        replace h := h v3_5 ev3_5
        refine g_istore_n (np := 42) (lv' := [some (.ref (xad (fX K) 11 0)), some (.int v1), some (.int v2), some (.int v3_5), some (.int v4)]) B.1 dX8_readNumber_41 (by decide) rfl rfl rfl ?_
        refine g_aload_n (np := 43) B.1 dX8_readNumber_42 rfl rfl ?_
        refine g_dup (np := 44) B.1 dX8_readNumber_43 rfl rfl ?_
        refine gf_YScript_44_11 (np := 47) B.1 dX8_readNumber_44 rfl ?_
        refine g_iconst (np := 48) (v := 1) B.1 dX8_readNumber_47 (by decide) rfl ?_
        refine g_iadd (np := 49) B.1 dX8_readNumber_48 rfl ?_
        refine gp_YScript_44_11 (np := 52) B.1 dX8_readNumber_49 rfl ?_
        refine g_mem (fun s6 es6 => ?_)
        replace h := h s6 es6
        obtain ⟨v4_7, ev4_7⟩ : ∃ y : Int32, y = v4 + 1 := ⟨_, rfl⟩
        replace h := h v4_7 ev4_7
        refine g_iinc (np := 55) (v := v4_7) (lv' := [some (.ref (xad (fX K) 11 0)), some (.int v1), some (.int v2), some (.int v3_5), some (.int v4_7)]) B.1 dX8_readNumber_52 rfl (by rw [ev4_7]; rfl) (by decide) rfl rfl rfl ?_
        refine g_goto (tgt := 5) B.1 dX8_readNumber_55 (by decide) ?_
        refine Go.lle [some (.ref (xad (fX K) 11 0)), some (.int v1), some (.int v2), some (.int v3_5), some (.int v4_7)] (by simp [lle]) ?_
        exact ih v1 v2 v3_5 v4_7 s6 h
set_option maxRecDepth 20000 in
set_option maxHeartbeats 4000000 in
theorem oX8_readNumber {l : Launch} {x : Ctx} (hl : l.stackTraces = false)   (a1 : Int32) (a2 : Int32)  (s0 : Mem) (Q : Int32 → Mem → Prop) (E : String → Mem → Prop) (h : wX8_readNumber  a1 a2 s0 Q E) : MetG l x yX8_readNumber cX8_readNumber 5 (some .boolean) 5 117 0 0 [.ref (xad x 11 0), .int a1, .int a2] s0 (RI Q) E := by
  refine MetG.of hl (by decide) (Nat.le_of_ble_eq_true rfl) [some (.ref (xad x 11 0)), some (.int a1), some (.int a2), none, none] rfl (fun K B hx _ => ?_)
  subst hx
  unfold wX8_readNumber at h
  refine g_iconst (np := 1) (v := 0) B.1 dX8_readNumber_0 (by decide) rfl ?_
  refine g_istore_n (np := 2) (lv' := [some (.ref (xad (fX K) 11 0)), some (.int a1), some (.int a2), some (.int 0), none]) B.1 dX8_readNumber_1 (by decide) rfl rfl rfl ?_
  refine g_iconst (np := 3) (v := 0) B.1 dX8_readNumber_2 (by decide) rfl ?_
  refine g_istore (np := 5) (lv' := [some (.ref (xad (fX K) 11 0)), some (.int a1), some (.int a2), some (.int 0), some (.int 0)]) B.1 dX8_readNumber_3 (by decide) rfl rfl rfl ?_
  obtain ⟨m13, h⟩ := h
  refine Go.lle [some (.ref (xad (fX K) 11 0)), some (.int a1), some (.int a2), some (.int 0), some (.int 0)] (by simp [lle]) ?_
  refine oX8_readNumber_5 B    (fun x1_8 x3_9 x4_10 s11 h => ?_) (Nat.le_of_ble_eq_true rfl) (Nat.le_of_ble_eq_true rfl) m13 a1 a2 0 0  s0 h
  refine g_iload (np := 60) B.1 dX8_readNumber_58 rfl rfl ?_
  refine g_if_eq (np := 63) (tgt := 72) B.1 dX8_readNumber_60 (by decide) rfl (fun q => ?_) (fun q => ?_)
  · replace h := h.1 q
    refine g_iconst (np := 73) (v := 0) B.1 dX8_readNumber_72 (by decide) rfl ?_
    exact g_iret B (ty := .boolean) rfl (by decide) (Nat.le_of_ble_eq_true rfl) (Nat.le_of_ble_eq_true rfl) dX8_readNumber_73 ⟨_, rfl, h⟩
  · replace h := h.2 q
    refine g_iload_n (np := 64) B.1 dX8_readNumber_63 rfl rfl ?_
    refine g_aload_n (np := 65) B.1 dX8_readNumber_64 rfl rfl ?_
    refine gf_YScript_24_11 (np := 68) B.1 dX8_readNumber_65 rfl ?_
    refine g_alen (np := 69) B.1 10 7 (by decide : (7 : Nat) < 8) rfl rfl (t0 := 0) rfl (v := nI (iaLen 7)) rfl dX8_readNumber_68 rfl ?_
    refine g_icmp_lt (np := 72) (tgt := 74) B.1 dX8_readNumber_69 (by decide) rfl (fun q => ?_) (fun q => ?_)
    · replace h := h.1 q
      refine g_aload_n (np := 75) B.1 dX8_readNumber_74 rfl rfl ?_
      refine gf_YScript_24_11 (np := 78) B.1 dX8_readNumber_75 rfl ?_
      refine g_iload_n (np := 79) B.1 dX8_readNumber_78 rfl rfl ?_
      refine g_iload_n (np := 80) B.1 dX8_readNumber_79 rfl rfl ?_
      refine g_iast (np := 81) B.1 10 7 (by decide : (7 : Nat) < 8) rfl (fun _ _ => rfl) h.1 dX8_readNumber_80 rfl ?_
      replace h := h.2
      refine g_mem (fun s12 es12 => ?_)
      replace h := h s12 es12
      refine g_iconst (np := 82) (v := 1) B.1 dX8_readNumber_81 (by decide) rfl ?_
      exact g_iret B (ty := .boolean) rfl (by decide) (Nat.le_of_ble_eq_true rfl) (Nat.le_of_ble_eq_true rfl) dX8_readNumber_82 ⟨_, rfl, h⟩
    · replace h := h.2 q
      refine g_iconst (np := 73) (v := 0) B.1 dX8_readNumber_72 (by decide) rfl ?_
      exact g_iret B (ty := .boolean) rfl (by decide) (Nat.le_of_ble_eq_true rfl) (Nat.le_of_ble_eq_true rfl) dX8_readNumber_73 ⟨_, rfl, h⟩
def wX8_countSameSigns_2  (a1 : Nat) (Q : Int32 → Mem → Prop) (E : String → Mem → Prop)  (X34 : Int32 → Mem → Prop) : Nat → Int32 → Mem → Prop
  | 0, _, _ => False
  | n2 + 1, v2, s0 => wJ0_length_8abf5  a1 s0 (fun (r1 : Int32) (s2 : Mem) => s2 = s0 ∧ ((r1 ≤ v2 → X34 v2 s0) ∧ (¬ r1 ≤ v2 → wJ0_charAt_5068e  a1 v2 s0 (fun (r3 : Int32) (s4 : Mem) => s4 = s0 ∧ wX8_isSign  ((rd s0 11 0 4) + v2) r3 s0 (fun (r5 : Int32) (s6 : Mem) => ((r5 = 0 → X34 v2 s6) ∧ (¬ r5 = 0 → ∀ v2_7 : Int32, v2_7 = (v2 + 1) → wX8_countSameSigns_2  a1 Q E X34 n2 v2_7 s6))) E) E))) E
def wX8_countSameSigns  (a1 : Nat) (s0 : Mem) (Q : Int32 → Mem → Prop) (E : String → Mem → Prop) : Prop := ∃ m10 : Nat, wX8_countSameSigns_2  a1 Q E (fun (x2_8 : Int32) (s9 : Mem) => Q x2_8 s9) m10 0  s0
set_option maxRecDepth 20000 in
set_option maxHeartbeats 4000000 in
theorem oX8_countSameSigns_2 {K : Fr} {Q : Int32 → Mem → Prop} {E : String → Mem → Prop} (B : Bd K cX8_countSameSigns "YarnMill$Script" 3 (some .int) 5 118 0 0 (RI Q) E)  (a1 : Nat)  (ha1 : a1 < 18) {X34 : Int32 → Mem → Prop} {cells slots : Nat} (hX34 : ∀ (y2 : Int32) (τ : Mem), X34 y2 τ → Go K cells slots τ 34 [none, none, some (.int y2)] ([])) (hc : cells ≤ 0) (hs : slots ≤ 0) : ∀ (n : Nat) (v2 : Int32) (s0 : Mem), wX8_countSameSigns_2  a1 Q E X34 n v2 s0 → Go K cells slots s0 2 [some (.ref (xad (fX K) 11 0)), some (.ref (xen (fX K) 3 a1)), some (.int v2)] ([]) := by
  intro n
  induction n with
  | zero => intro v2 s0 h; exact absurd h (by simp [wX8_countSameSigns_2])
  | succ n ih =>
    intro v2 s0 h
    simp only [wX8_countSameSigns_2] at h
    refine g_iload_n (np := 3) B.1 dX8_countSameSigns_2 rfl rfl ?_
    refine g_aload_n (np := 4) B.1 dX8_countSameSigns_3 rfl rfl ?_
    refine gc_YScript_79 (np := 7) B  ha1 (oJ0_length_8abf5 B.1.tr   a1 ha1 _ _ _ h) (Nat.le_of_ble_eq_true rfl) (Nat.le_of_ble_eq_true rfl) (Nat.le_of_ble_eq_true rfl) hc hs dX8_countSameSigns_4 rfl (fun r1 s2 h => ?_)
    obtain ⟨es2, h⟩ := h
    rw [es2]
    refine g_icmp_ge (np := 10) (tgt := 34) B.1 dX8_countSameSigns_7 (by decide) rfl (fun q => ?_) (fun q => ?_)
    · replace h := h.1 q
      refine Go.lle [none, none, some (.int v2)] (by simp [lle]) ?_
      exact hX34 v2 s0 h
    · replace h := h.2 q
      refine g_aload_n (np := 11) B.1 dX8_countSameSigns_10 rfl rfl ?_
      refine g_aload_n (np := 12) B.1 dX8_countSameSigns_11 rfl rfl ?_
      refine gf_YScript_44_11 (np := 15) B.1 dX8_countSameSigns_12 rfl ?_
      refine g_iload_n (np := 16) B.1 dX8_countSameSigns_15 rfl rfl ?_
      refine g_iadd (np := 17) B.1 dX8_countSameSigns_16 rfl ?_
      refine g_aload_n (np := 18) B.1 dX8_countSameSigns_17 rfl rfl ?_
      refine g_iload_n (np := 19) B.1 dX8_countSameSigns_18 rfl rfl ?_
      refine gc_YScript_88 (np := 22) B  ha1 (oJ0_charAt_5068e B.1.tr   a1 v2 ha1 _ _ _ h) (Nat.le_of_ble_eq_true rfl) (Nat.le_of_ble_eq_true rfl) (Nat.le_of_ble_eq_true rfl) hc hs dX8_countSameSigns_19 rfl (fun r3 s4 h => ?_)
      obtain ⟨es4, h⟩ := h
      rw [es4]
      refine gc_YScript_92 (np := 25) B   (oX8_isSign B.1.tr   ((rd s0 11 0 4) + v2) r3  _ _ _ h) (Nat.le_of_ble_eq_true rfl) (Nat.le_of_ble_eq_true rfl) (Nat.le_of_ble_eq_true rfl) hc hs dX8_countSameSigns_22 rfl (fun r5 s6 h => ?_)
      refine g_if_eq (np := 28) (tgt := 34) B.1 dX8_countSameSigns_25 (by decide) rfl (fun q => ?_) (fun q => ?_)
      · replace h := h.1 q
        refine Go.lle [none, none, some (.int v2)] (by simp [lle]) ?_
        exact hX34 v2 s6 h
      · replace h := h.2 q
        obtain ⟨v2_7, ev2_7⟩ : ∃ y : Int32, y = v2 + 1 := ⟨_, rfl⟩
        replace h := h v2_7 ev2_7
        refine g_iinc (np := 31) (v := v2_7) (lv' := [some (.ref (xad (fX K) 11 0)), some (.ref (xen (fX K) 3 a1)), some (.int v2_7)]) B.1 dX8_countSameSigns_28 rfl (by rw [ev2_7]; rfl) (by decide) rfl rfl rfl ?_
        refine g_goto (tgt := 2) B.1 dX8_countSameSigns_31 (by decide) ?_
        refine Go.lle [some (.ref (xad (fX K) 11 0)), some (.ref (xen (fX K) 3 a1)), some (.int v2_7)] (by simp [lle]) ?_
        exact ih v2_7 s6 h
set_option maxRecDepth 20000 in
set_option maxHeartbeats 4000000 in
theorem oX8_countSameSigns {l : Launch} {x : Ctx} (hl : l.stackTraces = false)   (a1 : Nat) (ha1 : a1 < 18) (s0 : Mem) (Q : Int32 → Mem → Prop) (E : String → Mem → Prop) (h : wX8_countSameSigns  a1 s0 Q E) : MetG l x yX8_countSameSigns cX8_countSameSigns 3 (some .int) 5 118 0 0 [.ref (xad x 11 0), .ref (xen x 3 a1)] s0 (RI Q) E := by
  refine MetG.of hl (by decide) (Nat.le_of_ble_eq_true rfl) [some (.ref (xad x 11 0)), some (.ref (xen x 3 a1)), none] rfl (fun K B hx _ => ?_)
  subst hx
  unfold wX8_countSameSigns at h
  refine g_iconst (np := 1) (v := 0) B.1 dX8_countSameSigns_0 (by decide) rfl ?_
  refine g_istore_n (np := 2) (lv' := [some (.ref (xad (fX K) 11 0)), some (.ref (xen (fX K) 3 a1)), some (.int 0)]) B.1 dX8_countSameSigns_1 (by decide) rfl rfl rfl ?_
  obtain ⟨m10, h⟩ := h
  refine Go.lle [some (.ref (xad (fX K) 11 0)), some (.ref (xen (fX K) 3 a1)), some (.int 0)] (by simp [lle]) ?_
  refine oX8_countSameSigns_2 B  a1  ha1 (fun x2_8 s9 h => ?_) (Nat.le_of_ble_eq_true rfl) (Nat.le_of_ble_eq_true rfl) m10 0  s0 h
  refine g_iload_n (np := 35) B.1 dX8_countSameSigns_34 rfl rfl ?_
  exact g_iret B (ty := .int) rfl rfl (Nat.le_of_ble_eq_true rfl) (Nat.le_of_ble_eq_true rfl) dX8_countSameSigns_35 ⟨_, rfl, h⟩
def wX8_readWord_4   (Q : Option Nat → Mem → Prop) (E : String → Mem → Prop)  (X40 : Int32 → Nat → Mem → Prop) (X66 : Int32 → Mem → Prop) : Nat → Int32 → Int32 → Mem → Prop
  | 0, _, _, _ => False
  | n4 + 1, v1, v2, s0 => ((9 ≤ v2 → X66 v1 s0) ∧ (¬ 9 ≤ v2 → vp_in v2 9 ∧ ∀ j1 : Nat, j1 = v2.toNatClampNeg → wX8_countSameSigns  j1 s0 (fun (r2 : Int32) (s3 : Mem) => wJ0_length_8abf5  j1 s3 (fun (r4 : Int32) (s5 : Mem) => s5 = s3 ∧ ((¬ r2 = r4 → ∀ v1_6 : Int32, v1_6 = (if v1 < r2 then r2 else v1) → ∀ v2_7 : Int32, v2_7 = (v2 + 1) → wX8_readWord_4   Q E X40 X66 n4 v1_6 v2_7 s3) ∧ (r2 = r4 → X40 r2 j1 s3))) E) E))
def wX8_readWord   (s0 : Mem) (Q : Option Nat → Mem → Prop) (E : String → Mem → Prop) : Prop := ∃ m15 : Nat, wX8_readWord_4   Q E (fun (x4_9 : Int32) (j8 : Nat) (s10 : Mem) => ∀ s11 : Mem, s11 = wr s10 11 0 4 ((rd s10 11 0 4) + x4_9) → Q (some j8) s11) (fun (x1_12 : Int32) (s13 : Mem) => ∀ s14 : Mem, s14 = wr s13 11 0 4 ((rd s13 11 0 4) + x1_12) → Q (none) s14) m15 0 0  s0
set_option maxRecDepth 20000 in
set_option maxHeartbeats 4000000 in
theorem oX8_readWord_4 {K : Fr} {Q : Option Nat → Mem → Prop} {E : String → Mem → Prop} (B : Bd K cX8_readWord "YarnMill$Script" 5 (some (.object "YarnMill$Command")) 6 140 0 0 (RC (fX K) Q) E)    {X40 : Int32 → Nat → Mem → Prop} {X66 : Int32 → Mem → Prop} {cells slots : Nat} (hX40 : ∀ (y4 : Int32) (e3 : Nat) (he3 : e3 < 9) (τ : Mem), X40 y4 e3 τ → Go K cells slots τ 40 [some (.ref (xad (fX K) 11 0)), none, none, some (.ref (xen (fX K) 0 e3)), some (.int y4)] ([])) (hX66 : ∀ (y1 : Int32) (τ : Mem), X66 y1 τ → Go K cells slots τ 66 [some (.ref (xad (fX K) 11 0)), some (.int y1), none, none, none] ([])) (hc : cells ≤ 0) (hs : slots ≤ 0) : ∀ (n : Nat) (v1 : Int32) (v2 : Int32) (s0 : Mem), wX8_readWord_4   Q E X40 X66 n v1 v2 s0 → Go K cells slots s0 4 [some (.ref (xad (fX K) 11 0)), some (.int v1), some (.int v2), none, none] ([]) := by
  intro n
  induction n with
  | zero => intro v1 v2 s0 h; exact absurd h (by simp [wX8_readWord_4])
  | succ n ih =>
    intro v1 v2 s0 h
    simp only [wX8_readWord_4] at h
    refine g_iload_n (np := 5) B.1 dX8_readWord_4 rfl rfl ?_
    refine g_cmdAll (np := 8) B.1 t_1366 dX8_readWord_5 rfl ?_
    refine g_alenA (np := 9) B.1 dX8_readWord_8 rfl ?_
    refine g_icmp_ge (np := 12) (tgt := 66) B.1 dX8_readWord_9 (by decide) rfl (fun q => ?_) (fun q => ?_)
    · replace h := h.1 q
      refine Go.lle [some (.ref (xad (fX K) 11 0)), some (.int v1), none, none, none] (by simp [lle]) ?_
      exact hX66 v1 s0 h
    · replace h := h.2 q
      refine g_cmdAll (np := 15) B.1 t_1366 dX8_readWord_12 rfl ?_
      refine g_iload_n (np := 16) B.1 dX8_readWord_15 rfl rfl ?_
      have hj1 : v2.toNatClampNeg < 9 := vin_lt h.1
      refine g_cmdGet (np := 17) B.1 h.1 dX8_readWord_16 rfl ?_
      generalize ej1 : v2.toNatClampNeg = j1 at hj1 ⊢
      replace h := h.2 j1 ej1.symm
      refine g_astore_n (np := 18) (lv' := [some (.ref (xad (fX K) 11 0)), some (.int v1), some (.int v2), some (.ref (xen (fX K) 0 j1)), none]) B.1 dX8_readWord_17 (by decide) rfl rfl rfl ?_
      refine g_aload_n (np := 19) B.1 dX8_readWord_18 rfl rfl ?_
      refine g_aload_n (np := 20) B.1 dX8_readWord_19 rfl rfl ?_
      refine g_cmdW (np := 23) B.1 hj1 t_1671 dX8_readWord_20 rfl ?_
      refine gc_YScript_75 (np := 26) B   (oX8_countSameSigns B.1.tr   j1 (Nat.lt_of_lt_of_le hj1 (by decide)) _ _ _ h) (Nat.le_of_ble_eq_true rfl) (Nat.le_of_ble_eq_true rfl) (Nat.le_of_ble_eq_true rfl) hc hs dX8_readWord_23 rfl (fun r2 s3 h => ?_)
      refine g_istore (np := 28) (lv' := [some (.ref (xad (fX K) 11 0)), some (.int v1), some (.int v2), some (.ref (xen (fX K) 0 j1)), some (.int r2)]) B.1 dX8_readWord_26 (by decide) rfl rfl rfl ?_
      refine g_iload (np := 30) B.1 dX8_readWord_28 rfl rfl ?_
      refine g_aload_n (np := 31) B.1 dX8_readWord_30 rfl rfl ?_
      refine g_cmdW (np := 34) B.1 hj1 t_1671 dX8_readWord_31 rfl ?_
      refine gc_YScript_79 (np := 37) B  (Nat.lt_of_lt_of_le hj1 (by decide)) (oJ0_length_8abf5 B.1.tr   j1 (Nat.lt_of_lt_of_le hj1 (by decide)) _ _ _ h) (Nat.le_of_ble_eq_true rfl) (Nat.le_of_ble_eq_true rfl) (Nat.le_of_ble_eq_true rfl) hc hs dX8_readWord_34 rfl (fun r4 s5 h => ?_)
      obtain ⟨es5, h⟩ := h
      rw [es5]
      refine g_icmp_ne (np := 40) (tgt := 53) B.1 dX8_readWord_37 (by decide) rfl (fun q => ?_) (fun q => ?_)
      · replace h := h.1 q
        refine g_iload_n (np := 54) B.1 dX8_readWord_53 rfl rfl ?_
        refine g_iload (np := 56) B.1 dX8_readWord_54 rfl rfl ?_
        refine g_mmax (np := 59) B.1 b_1388 b_137 b_30 b_138 (by rw [B.2.1]; exact Nat.le_of_ble_eq_true rfl) (by rw [B.2.1]; exact Nat.le_of_ble_eq_true rfl) (by rw [B.2.1]; exact hc) (by rw [B.2.1]; exact hs) dX8_readWord_56 rfl ?_
        refine g_topi (fun v1_6 ev1_6 => ?_)
        replace h := h v1_6 ev1_6
        refine g_istore_n (np := 60) (lv' := [some (.ref (xad (fX K) 11 0)), some (.int v1_6), some (.int v2), some (.ref (xen (fX K) 0 j1)), some (.int r2)]) B.1 dX8_readWord_59 (by decide) rfl rfl rfl ?_
        obtain ⟨v2_7, ev2_7⟩ : ∃ y : Int32, y = v2 + 1 := ⟨_, rfl⟩
        replace h := h v2_7 ev2_7
        refine g_iinc (np := 63) (v := v2_7) (lv' := [some (.ref (xad (fX K) 11 0)), some (.int v1_6), some (.int v2_7), some (.ref (xen (fX K) 0 j1)), some (.int r2)]) B.1 dX8_readWord_60 rfl (by rw [ev2_7]; rfl) (by decide) rfl rfl rfl ?_
        refine g_goto (tgt := 4) B.1 dX8_readWord_63 (by decide) ?_
        refine Go.lle [some (.ref (xad (fX K) 11 0)), some (.int v1_6), some (.int v2_7), none, none] (by simp [lle]) ?_
        exact ih v1_6 v2_7 s3 h
      · replace h := h.2 q
        refine Go.lle [some (.ref (xad (fX K) 11 0)), none, none, some (.ref (xen (fX K) 0 j1)), some (.int r2)] (by simp [lle]) ?_
        exact hX40 r2 j1 hj1 s3 h
set_option maxRecDepth 20000 in
set_option maxHeartbeats 4000000 in
theorem oX8_readWord {l : Launch} {x : Ctx} (hl : l.stackTraces = false)     (s0 : Mem) (Q : Option Nat → Mem → Prop) (E : String → Mem → Prop) (h : wX8_readWord   s0 Q E) : MetG l x yX8_readWord cX8_readWord 5 (some (.object "YarnMill$Command")) 6 140 0 0 [.ref (xad x 11 0)] s0 (RC x Q) E := by
  refine MetG.of hl (by decide) (Nat.le_of_ble_eq_true rfl) [some (.ref (xad x 11 0)), none, none, none, none] rfl (fun K B hx _ => ?_)
  subst hx
  unfold wX8_readWord at h
  refine g_iconst (np := 1) (v := 0) B.1 dX8_readWord_0 (by decide) rfl ?_
  refine g_istore_n (np := 2) (lv' := [some (.ref (xad (fX K) 11 0)), some (.int 0), none, none, none]) B.1 dX8_readWord_1 (by decide) rfl rfl rfl ?_
  refine g_iconst (np := 3) (v := 0) B.1 dX8_readWord_2 (by decide) rfl ?_
  refine g_istore_n (np := 4) (lv' := [some (.ref (xad (fX K) 11 0)), some (.int 0), some (.int 0), none, none]) B.1 dX8_readWord_3 (by decide) rfl rfl rfl ?_
  obtain ⟨m15, h⟩ := h
  refine Go.lle [some (.ref (xad (fX K) 11 0)), some (.int 0), some (.int 0), none, none] (by simp [lle]) ?_
  refine oX8_readWord_4 B    (fun x4_9 j8 hj8 s10 h => ?_) (fun x1_12 s13 h => ?_) (Nat.le_of_ble_eq_true rfl) (Nat.le_of_ble_eq_true rfl) m15 0 0  s0 h
  · refine g_aload_n (np := 41) B.1 dX8_readWord_40 rfl rfl ?_
    refine g_dup (np := 42) B.1 dX8_readWord_41 rfl rfl ?_
    refine gf_YScript_44_11 (np := 45) B.1 dX8_readWord_42 rfl ?_
    refine g_iload (np := 47) B.1 dX8_readWord_45 rfl rfl ?_
    refine g_iadd (np := 48) B.1 dX8_readWord_47 rfl ?_
    refine gp_YScript_44_11 (np := 51) B.1 dX8_readWord_48 rfl ?_
    refine g_mem (fun s11 es11 => ?_)
    replace h := h s11 es11
    refine g_aload_n (np := 52) B.1 dX8_readWord_51 rfl rfl ?_
    exact g_aret B rfl (Or.inl ⟨_, rfl⟩) (Or.inr ⟨_, rfl⟩) (Nat.le_of_ble_eq_true rfl) (Nat.le_of_ble_eq_true rfl) dX8_readWord_52 ⟨some j8, rfl, (fun _ q => by cases q; exact hj8), h⟩
  · refine g_aload_n (np := 67) B.1 dX8_readWord_66 rfl rfl ?_
    refine g_dup (np := 68) B.1 dX8_readWord_67 rfl rfl ?_
    refine gf_YScript_44_11 (np := 71) B.1 dX8_readWord_68 rfl ?_
    refine g_iload_n (np := 72) B.1 dX8_readWord_71 rfl rfl ?_
    refine g_iadd (np := 73) B.1 dX8_readWord_72 rfl ?_
    refine gp_YScript_44_11 (np := 76) B.1 dX8_readWord_73 rfl ?_
    refine g_mem (fun s14 es14 => ?_)
    replace h := h s14 es14
    refine g_null (np := 77) B.1 dX8_readWord_76 rfl ?_
    exact g_aret B rfl (Or.inl ⟨_, rfl⟩) (Or.inl rfl) (Nat.le_of_ble_eq_true rfl) (Nat.le_of_ble_eq_true rfl) dX8_readWord_77 ⟨none, rfl, (fun _ q => by cases q), h⟩
def wX8_readCommand_23   (j3 : Nat) (Q : Int32 → Mem → Prop) (E : String → Mem → Prop)  (X44 : Mem → Prop) (X65 : Mem → Prop) (X73 : Mem → Prop) : Nat → Int32 → Mem → Prop
  | 0, _, _ => False
  | n23 + 1, v2, s0 => ((([3, 2, 2, 1, 1, 1, 1, 0, 1] : List Int32).getD j3 0 ≤ v2 → X73  s0) ∧ (¬ ([3, 2, 2, 1, 1, 1, 1, 0, 1] : List Int32).getD j3 0 ≤ v2 → ((v2 ≤ 0 → wX8_readNumber  (((rd s0 11 0 3) * 3) + v2) (([3, 3, 3, 3, 1, 3, 3, 0, 3] : List Int32).getD j3 0) s0 (fun (r5 : Int32) (s6 : Mem) => ((¬ r5 = 0 → ∀ v2_7 : Int32, v2_7 = (v2 + 1) → wX8_readCommand_23   j3 Q E X44 X65 X73 n23 v2_7 s6) ∧ (r5 = 0 → X65  s6))) E) ∧ (¬ v2 ≤ 0 → wX8_readSign  32 s0 (fun (r8 : Int32) (s9 : Mem) => ((¬ r8 = 0 → wX8_readNumber  (((rd s9 11 0 3) * 3) + v2) (([3, 3, 3, 3, 1, 3, 3, 0, 3] : List Int32).getD j3 0) s9 (fun (r10 : Int32) (s11 : Mem) => ((¬ r10 = 0 → ∀ v2_12 : Int32, v2_12 = (v2 + 1) → wX8_readCommand_23   j3 Q E X44 X65 X73 n23 v2_12 s11) ∧ (r10 = 0 → X65  s11))) E) ∧ (r8 = 0 → X44  s9))) E))))
def wX8_readCommand   (s0 : Mem) (Q : Int32 → Mem → Prop) (E : String → Mem → Prop) : Prop := wX8_readWord   s0 (fun (r1 : Option Nat) (s2 : Mem) => ((r1 = none → Q 0 s2) ∧ (∀ j3 : Nat, r1 = some j3 → vp_in (rd s2 11 0 3) 60 ∧ ∀ s4 : Mem, s4 = wr s2 12 0 (rd s2 11 0 3).toNatClampNeg (nI (j3 + 1)) → ∃ m16 : Nat, wX8_readCommand_23   j3 Q E (fun (s13 : Mem) => Q 0 s13) (fun (s14 : Mem) => Q 0 s14) (fun (s15 : Mem) => Q 1 s15) m16 0  s4))) E
set_option maxRecDepth 20000 in
set_option maxHeartbeats 4000000 in
theorem oX8_readCommand_23 {K : Fr} {Q : Int32 → Mem → Prop} {E : String → Mem → Prop} (B : Bd K cX8_readCommand "YarnMill$Script" 3 (some .boolean) 7 164 0 0 (RI Q) E)   (j3 : Nat)  (hj3 : j3 < 9) {X44 : Mem → Prop} {X65 : Mem → Prop} {X73 : Mem → Prop} {cells slots : Nat} (hX44 : ∀ (τ : Mem), X44  τ → Go K cells slots τ 44 [none, none, none] ([])) (hX65 : ∀ (τ : Mem), X65  τ → Go K cells slots τ 65 [none, none, none] ([])) (hX73 : ∀ (τ : Mem), X73  τ → Go K cells slots τ 73 [none, none, none] ([])) (hc : cells ≤ 0) (hs : slots ≤ 0) : ∀ (n : Nat) (v2 : Int32) (s0 : Mem), wX8_readCommand_23   j3 Q E X44 X65 X73 n v2 s0 → Go K cells slots s0 23 [some (.ref (xad (fX K) 11 0)), some (.ref (xen (fX K) 0 j3)), some (.int v2)] ([]) := by
  intro n
  induction n with
  | zero => intro v2 s0 h; exact absurd h (by simp [wX8_readCommand_23])
  | succ n ih =>
    intro v2 s0 h
    simp only [wX8_readCommand_23] at h
    refine g_iload_n (np := 24) B.1 dX8_readCommand_23 rfl rfl ?_
    refine g_aload_n (np := 25) B.1 dX8_readCommand_24 rfl rfl ?_
    refine g_cmdN (np := 28) B.1 hj3 ("YarnMill$Command", "numbers", "I", [3, 2, 2, 1, 1, 1, 1, 0, 1]) (by decide) t_1672 dX8_readCommand_25 rfl ?_
    refine g_icmp_ge (np := 31) (tgt := 73) B.1 dX8_readCommand_28 (by decide) rfl (fun q => ?_) (fun q => ?_)
    · replace h := h.1 q
      refine Go.lle [none, none, none] (by simp [lle]) ?_
      exact hX73  s0 h
    · replace h := h.2 q
      refine g_iload_n (np := 32) B.1 dX8_readCommand_31 rfl rfl ?_
      refine g_if_le (np := 35) (tgt := 46) B.1 dX8_readCommand_32 (by decide) rfl (fun q => ?_) (fun q => ?_)
      · replace h := h.1 q
        refine g_aload_n (np := 47) B.1 dX8_readCommand_46 rfl rfl ?_
        refine g_aload_n (np := 48) B.1 dX8_readCommand_47 rfl rfl ?_
        refine gf_YScript_40_11 (np := 51) B.1 dX8_readCommand_48 rfl ?_
        refine g_iconst (np := 52) (v := 3) B.1 dX8_readCommand_51 (by decide) rfl ?_
        refine g_imul (np := 53) B.1 dX8_readCommand_52 rfl ?_
        refine g_iload_n (np := 54) B.1 dX8_readCommand_53 rfl rfl ?_
        refine g_iadd (np := 55) B.1 dX8_readCommand_54 rfl ?_
        refine g_aload_n (np := 56) B.1 dX8_readCommand_55 rfl rfl ?_
        refine g_cmdN (np := 59) B.1 hj3 ("YarnMill$Command", "digits", "I", [3, 3, 3, 3, 1, 3, 3, 0, 3]) (by decide) t_1673 dX8_readCommand_56 rfl ?_
        refine gc_YScript_64 (np := 62) B   (oX8_readNumber B.1.tr   (((rd s0 11 0 3) * 3) + v2) (([3, 3, 3, 3, 1, 3, 3, 0, 3] : List Int32).getD j3 0)  _ _ _ h) (Nat.le_of_ble_eq_true rfl) (Nat.le_of_ble_eq_true rfl) (Nat.le_of_ble_eq_true rfl) hc hs dX8_readCommand_59 rfl (fun r5 s6 h => ?_)
        refine g_if_ne (np := 65) (tgt := 67) B.1 dX8_readCommand_62 (by decide) rfl (fun q => ?_) (fun q => ?_)
        · replace h := h.1 q
          obtain ⟨v2_7, ev2_7⟩ : ∃ y : Int32, y = v2 + 1 := ⟨_, rfl⟩
          replace h := h v2_7 ev2_7
          refine g_iinc (np := 70) (v := v2_7) (lv' := [some (.ref (xad (fX K) 11 0)), some (.ref (xen (fX K) 0 j3)), some (.int v2_7)]) B.1 dX8_readCommand_67 rfl (by rw [ev2_7]; rfl) (by decide) rfl rfl rfl ?_
          refine g_goto (tgt := 23) B.1 dX8_readCommand_70 (by decide) ?_
          refine Go.lle [some (.ref (xad (fX K) 11 0)), some (.ref (xen (fX K) 0 j3)), some (.int v2_7)] (by simp [lle]) ?_
          exact ih v2_7 s6 h
        · replace h := h.2 q
          refine Go.lle [none, none, none] (by simp [lle]) ?_
          exact hX65  s6 h
      · replace h := h.2 q
        refine g_aload_n (np := 36) B.1 dX8_readCommand_35 rfl rfl ?_
        refine g_bipush (np := 38) (v := 32) B.1 dX8_readCommand_36 (by decide) rfl ?_
        refine gc_YScript_51 (np := 41) B   (oX8_readSign B.1.tr   32  _ _ _ h) (Nat.le_of_ble_eq_true rfl) (Nat.le_of_ble_eq_true rfl) (Nat.le_of_ble_eq_true rfl) hc hs dX8_readCommand_38 rfl (fun r8 s9 h => ?_)
        refine g_if_ne (np := 44) (tgt := 46) B.1 dX8_readCommand_41 (by decide) rfl (fun q => ?_) (fun q => ?_)
        · replace h := h.1 q
          refine g_aload_n (np := 47) B.1 dX8_readCommand_46 rfl rfl ?_
          refine g_aload_n (np := 48) B.1 dX8_readCommand_47 rfl rfl ?_
          refine gf_YScript_40_11 (np := 51) B.1 dX8_readCommand_48 rfl ?_
          refine g_iconst (np := 52) (v := 3) B.1 dX8_readCommand_51 (by decide) rfl ?_
          refine g_imul (np := 53) B.1 dX8_readCommand_52 rfl ?_
          refine g_iload_n (np := 54) B.1 dX8_readCommand_53 rfl rfl ?_
          refine g_iadd (np := 55) B.1 dX8_readCommand_54 rfl ?_
          refine g_aload_n (np := 56) B.1 dX8_readCommand_55 rfl rfl ?_
          refine g_cmdN (np := 59) B.1 hj3 ("YarnMill$Command", "digits", "I", [3, 3, 3, 3, 1, 3, 3, 0, 3]) (by decide) t_1673 dX8_readCommand_56 rfl ?_
          refine gc_YScript_64 (np := 62) B   (oX8_readNumber B.1.tr   (((rd s9 11 0 3) * 3) + v2) (([3, 3, 3, 3, 1, 3, 3, 0, 3] : List Int32).getD j3 0)  _ _ _ h) (Nat.le_of_ble_eq_true rfl) (Nat.le_of_ble_eq_true rfl) (Nat.le_of_ble_eq_true rfl) hc hs dX8_readCommand_59 rfl (fun r10 s11 h => ?_)
          refine g_if_ne (np := 65) (tgt := 67) B.1 dX8_readCommand_62 (by decide) rfl (fun q => ?_) (fun q => ?_)
          · replace h := h.1 q
            obtain ⟨v2_12, ev2_12⟩ : ∃ y : Int32, y = v2 + 1 := ⟨_, rfl⟩
            replace h := h v2_12 ev2_12
            refine g_iinc (np := 70) (v := v2_12) (lv' := [some (.ref (xad (fX K) 11 0)), some (.ref (xen (fX K) 0 j3)), some (.int v2_12)]) B.1 dX8_readCommand_67 rfl (by rw [ev2_12]; rfl) (by decide) rfl rfl rfl ?_
            refine g_goto (tgt := 23) B.1 dX8_readCommand_70 (by decide) ?_
            refine Go.lle [some (.ref (xad (fX K) 11 0)), some (.ref (xen (fX K) 0 j3)), some (.int v2_12)] (by simp [lle]) ?_
            exact ih v2_12 s11 h
          · replace h := h.2 q
            refine Go.lle [none, none, none] (by simp [lle]) ?_
            exact hX65  s11 h
        · replace h := h.2 q
          refine Go.lle [none, none, none] (by simp [lle]) ?_
          exact hX44  s9 h
set_option maxRecDepth 20000 in
set_option maxHeartbeats 4000000 in
theorem oX8_readCommand {l : Launch} {x : Ctx} (hl : l.stackTraces = false)     (s0 : Mem) (Q : Int32 → Mem → Prop) (E : String → Mem → Prop) (h : wX8_readCommand   s0 Q E) : MetG l x yX8_readCommand cX8_readCommand 3 (some .boolean) 7 164 0 0 [.ref (xad x 11 0)] s0 (RI Q) E := by
  refine MetG.of hl (by decide) (Nat.le_of_ble_eq_true rfl) [some (.ref (xad x 11 0)), none, none] rfl (fun K B hx _ => ?_)
  subst hx
  unfold wX8_readCommand at h
  refine g_aload_n (np := 1) B.1 dX8_readCommand_0 rfl rfl ?_
  refine gc_YScript_55 (np := 4) B   (oX8_readWord B.1.tr     _ _ _ h) (Nat.le_of_ble_eq_true rfl) (Nat.le_of_ble_eq_true rfl) (Nat.le_of_ble_eq_true rfl) (Nat.le_of_ble_eq_true rfl) (Nat.le_of_ble_eq_true rfl) dX8_readCommand_1 rfl (fun r1 hr1 s2 h => ?_)
  rcases r1 with _ | j3
  · replace h := h.1 rfl
    refine Go.eq rfl rfl rfl (st' := .null :: []) rfl ?_
    refine g_astore_nN (np := 5) (lv' := [some (.ref (xad (fX K) 11 0)), some (.null), none]) B.1 dX8_readCommand_4 (by decide) rfl rfl rfl ?_
    refine g_aload_nN (np := 6) B.1 dX8_readCommand_5 rfl rfl ?_
    refine g_ifnonnullN (np := 9) B.1 dX8_readCommand_6 rfl ?_
    refine g_iconst (np := 10) (v := 0) B.1 dX8_readCommand_9 (by decide) rfl ?_
    exact g_iret B (ty := .boolean) rfl (by decide) (Nat.le_of_ble_eq_true rfl) (Nat.le_of_ble_eq_true rfl) dX8_readCommand_10 ⟨_, rfl, h⟩
  · replace h := h.2 j3 rfl
    have hj3 : j3 < 9 := hr1 j3 rfl
    refine Go.eq rfl rfl rfl (st' := .ref (xen (fX K) 0 j3) :: []) rfl ?_
    refine g_astore_n (np := 5) (lv' := [some (.ref (xad (fX K) 11 0)), some (.ref (xen (fX K) 0 j3)), none]) B.1 dX8_readCommand_4 (by decide) rfl rfl rfl ?_
    refine g_aload_n (np := 6) B.1 dX8_readCommand_5 rfl rfl ?_
    refine g_ifnonnull (tgt := 11) B.1 dX8_readCommand_6 (by decide) ?_
    refine g_aload_n (np := 12) B.1 dX8_readCommand_11 rfl rfl ?_
    refine gf_YScript_20_11 (np := 15) B.1 dX8_readCommand_12 rfl ?_
    refine g_aload_n (np := 16) B.1 dX8_readCommand_15 rfl rfl ?_
    refine gf_YScript_40_11 (np := 19) B.1 dX8_readCommand_16 rfl ?_
    refine g_aload_n (np := 20) B.1 dX8_readCommand_19 rfl rfl ?_
    refine g_cmdSt (np := 21) B.1 hj3 h.1 dX8_readCommand_20 rfl ?_
    replace h := h.2
    refine g_mem (fun s4 es4 => ?_)
    replace h := h s4 es4
    refine g_iconst (np := 22) (v := 0) B.1 dX8_readCommand_21 (by decide) rfl ?_
    refine g_istore_n (np := 23) (lv' := [some (.ref (xad (fX K) 11 0)), some (.ref (xen (fX K) 0 j3)), some (.int 0)]) B.1 dX8_readCommand_22 (by decide) rfl rfl rfl ?_
    obtain ⟨m16, h⟩ := h
    refine Go.lle [some (.ref (xad (fX K) 11 0)), some (.ref (xen (fX K) 0 j3)), some (.int 0)] (by simp [lle]) ?_
    refine oX8_readCommand_23 B   j3  hj3 (fun s13 h => ?_) (fun s14 h => ?_) (fun s15 h => ?_) (Nat.le_of_ble_eq_true rfl) (Nat.le_of_ble_eq_true rfl) m16 0  s4 h
    · refine g_iconst (np := 45) (v := 0) B.1 dX8_readCommand_44 (by decide) rfl ?_
      exact g_iret B (ty := .boolean) rfl (by decide) (Nat.le_of_ble_eq_true rfl) (Nat.le_of_ble_eq_true rfl) dX8_readCommand_45 ⟨_, rfl, h⟩
    · refine g_iconst (np := 66) (v := 0) B.1 dX8_readCommand_65 (by decide) rfl ?_
      exact g_iret B (ty := .boolean) rfl (by decide) (Nat.le_of_ble_eq_true rfl) (Nat.le_of_ble_eq_true rfl) dX8_readCommand_66 ⟨_, rfl, h⟩
    · refine g_iconst (np := 74) (v := 1) B.1 dX8_readCommand_73 (by decide) rfl ?_
      exact g_iret B (ty := .boolean) rfl (by decide) (Nat.le_of_ble_eq_true rfl) (Nat.le_of_ble_eq_true rfl) dX8_readCommand_74 ⟨_, rfl, h⟩
def wX8_readForm_10   (Q : Int32 → Mem → Prop) (E : String → Mem → Prop)  (X29 : Mem → Prop) (X58 : Mem → Prop) (X69 : Mem → Prop) (X74 : Mem → Prop) : Nat → Mem → Prop
  | 0, _ => False
  | n10 + 1, s0 => ((60 ≤ rd s0 11 0 3 → X74  s0) ∧ (¬ 60 ≤ rd s0 11 0 3 → wX8_readCommand   s0 (fun (r3 : Int32) (s4 : Mem) => ((¬ r3 = 0 → ∀ s5 : Mem, s5 = wr s4 11 0 3 ((rd s4 11 0 3) + 1) → wJ4_length_8abf5 0  s5 (fun (r6 : Int32) (s7 : Mem) => s7 = s5 ∧ ((¬ rd s5 11 0 4 = r6 → wX8_readSign  59 s5 (fun (r8 : Int32) (s9 : Mem) => ((¬ r8 = 0 → wX8_readForm_10   Q E X29 X58 X69 X74 n10  s9) ∧ (r8 = 0 → X69  s9))) E) ∧ (rd s5 11 0 4 = r6 → X58  s5))) E) ∧ (r3 = 0 → X29  s4))) E))
def wX8_readForm   (s0 : Mem) (Q : Int32 → Mem → Prop) (E : String → Mem → Prop) : Prop := ∀ s1 : Mem, s1 = wr s0 11 0 4 0 → ∀ s2 : Mem, s2 = wr s1 11 0 3 0 → ∃ m14 : Nat, wX8_readForm_10   Q E (fun (s10 : Mem) => Q (rd s10 11 0 4) s10) (fun (s11 : Mem) => Q ((-1)) s11) (fun (s12 : Mem) => Q (rd s12 11 0 4) s12) (fun (s13 : Mem) => Q (rd s13 11 0 4) s13) m14   s2
set_option maxRecDepth 20000 in
set_option maxHeartbeats 4000000 in
theorem oX8_readForm_10 {K : Fr} {Q : Int32 → Mem → Prop} {E : String → Mem → Prop} (B : Bd K cX8_readForm "YarnMill$Script" 1 (some .int) 8 186 0 0 (RI Q) E)    {X29 : Mem → Prop} {X58 : Mem → Prop} {X69 : Mem → Prop} {X74 : Mem → Prop} {cells slots : Nat} (hX29 : ∀ (τ : Mem), X29  τ → Go K cells slots τ 29 [some (.ref (xad (fX K) 11 0))] ([])) (hX58 : ∀ (τ : Mem), X58  τ → Go K cells slots τ 58 [none] ([])) (hX69 : ∀ (τ : Mem), X69  τ → Go K cells slots τ 69 [some (.ref (xad (fX K) 11 0))] ([])) (hX74 : ∀ (τ : Mem), X74  τ → Go K cells slots τ 74 [some (.ref (xad (fX K) 11 0))] ([])) (hc : cells ≤ 0) (hs : slots ≤ 0) : ∀ (n : Nat) (s0 : Mem), wX8_readForm_10   Q E X29 X58 X69 X74 n  s0 → Go K cells slots s0 10 [some (.ref (xad (fX K) 11 0))] ([]) := by
  intro n
  induction n with
  | zero => intro  s0 h; exact absurd h (by simp [wX8_readForm_10])
  | succ n ih =>
    intro  s0 h
    simp only [wX8_readForm_10] at h
    refine g_aload_n (np := 11) B.1 dX8_readForm_10 rfl rfl ?_
    refine gf_YScript_40_11 (np := 14) B.1 dX8_readForm_11 rfl ?_
    refine g_aload_n (np := 15) B.1 dX8_readForm_14 rfl rfl ?_
    refine gf_YScript_20_11 (np := 18) B.1 dX8_readForm_15 rfl ?_
    refine g_alen (np := 19) B.1 12 0 (by decide : (0 : Nat) < 1) rfl rfl (t0 := 5) rfl (v := 60) (by show Int32.ofNat 60 = 60; decide) dX8_readForm_18 rfl ?_
    refine g_icmp_ge (np := 22) (tgt := 74) B.1 dX8_readForm_19 (by decide) rfl (fun q => ?_) (fun q => ?_)
    · replace h := h.1 q
      refine Go.lle [some (.ref (xad (fX K) 11 0))] (by simp [lle]) ?_
      exact hX74  s0 h
    · replace h := h.2 q
      refine g_aload_n (np := 23) B.1 dX8_readForm_22 rfl rfl ?_
      refine gc_YScript_47 (np := 26) B   (oX8_readCommand B.1.tr     _ _ _ h) (Nat.le_of_ble_eq_true rfl) (Nat.le_of_ble_eq_true rfl) (Nat.le_of_ble_eq_true rfl) hc hs dX8_readForm_23 rfl (fun r3 s4 h => ?_)
      refine g_if_ne (np := 29) (tgt := 34) B.1 dX8_readForm_26 (by decide) rfl (fun q => ?_) (fun q => ?_)
      · replace h := h.1 q
        refine g_aload_n (np := 35) B.1 dX8_readForm_34 rfl rfl ?_
        refine g_dup (np := 36) B.1 dX8_readForm_35 rfl rfl ?_
        refine gf_YScript_40_11 (np := 39) B.1 dX8_readForm_36 rfl ?_
        refine g_iconst (np := 40) (v := 1) B.1 dX8_readForm_39 (by decide) rfl ?_
        refine g_iadd (np := 41) B.1 dX8_readForm_40 rfl ?_
        refine gp_YScript_40_11 (np := 44) B.1 dX8_readForm_41 rfl ?_
        refine g_mem (fun s5 es5 => ?_)
        replace h := h s5 es5
        refine g_aload_n (np := 45) B.1 dX8_readForm_44 rfl rfl ?_
        refine gf_YScript_44_11 (np := 48) B.1 dX8_readForm_45 rfl ?_
        refine g_aload_n (np := 49) B.1 dX8_readForm_48 rfl rfl ?_
        refine gf_YScript_12_11 (np := 52) B.1 dX8_readForm_49 rfl ?_
        refine gc_YScript_28 (np := 55) B 0 (cb (by decide : (0 : Nat) < 2)) (oJ4_length_8abf5 B.1.tr 0 (cb (by decide : (0 : Nat) < 2))   _ _ _ h) (Nat.le_of_ble_eq_true rfl) (Nat.le_of_ble_eq_true rfl) (Nat.le_of_ble_eq_true rfl) hc hs dX8_readForm_52 rfl (fun r6 s7 h => ?_)
        obtain ⟨es7, h⟩ := h
        rw [es7]
        refine g_icmp_ne (np := 58) (tgt := 60) B.1 dX8_readForm_55 (by decide) rfl (fun q => ?_) (fun q => ?_)
        · replace h := h.1 q
          refine g_aload_n (np := 61) B.1 dX8_readForm_60 rfl rfl ?_
          refine g_bipush (np := 63) (v := 59) B.1 dX8_readForm_61 (by decide) rfl ?_
          refine gc_YScript_51 (np := 66) B   (oX8_readSign B.1.tr   59  _ _ _ h) (Nat.le_of_ble_eq_true rfl) (Nat.le_of_ble_eq_true rfl) (Nat.le_of_ble_eq_true rfl) hc hs dX8_readForm_63 rfl (fun r8 s9 h => ?_)
          refine g_if_ne (np := 69) (tgt := 10) B.1 dX8_readForm_66 (by decide) rfl (fun q => ?_) (fun q => ?_)
          · replace h := h.1 q
            refine Go.lle [some (.ref (xad (fX K) 11 0))] (by simp [lle]) ?_
            exact ih  s9 h
          · replace h := h.2 q
            refine Go.lle [some (.ref (xad (fX K) 11 0))] (by simp [lle]) ?_
            exact hX69  s9 h
        · replace h := h.2 q
          refine Go.lle [none] (by simp [lle]) ?_
          exact hX58  s5 h
      · replace h := h.2 q
        refine Go.lle [some (.ref (xad (fX K) 11 0))] (by simp [lle]) ?_
        exact hX29  s4 h
set_option maxRecDepth 20000 in
set_option maxHeartbeats 4000000 in
theorem oX8_readForm {l : Launch} {x : Ctx} (hl : l.stackTraces = false)     (s0 : Mem) (Q : Int32 → Mem → Prop) (E : String → Mem → Prop) (h : wX8_readForm   s0 Q E) : MetG l x yX8_readForm cX8_readForm 1 (some .int) 8 186 0 0 [.ref (xad x 11 0)] s0 (RI Q) E := by
  refine MetG.of hl (by decide) (Nat.le_of_ble_eq_true rfl) [some (.ref (xad x 11 0))] rfl (fun K B hx _ => ?_)
  subst hx
  unfold wX8_readForm at h
  refine g_aload_n (np := 1) B.1 dX8_readForm_0 rfl rfl ?_
  refine g_iconst (np := 2) (v := 0) B.1 dX8_readForm_1 (by decide) rfl ?_
  refine gp_YScript_44_11 (np := 5) B.1 dX8_readForm_2 rfl ?_
  refine g_mem (fun s1 es1 => ?_)
  replace h := h s1 es1
  refine g_aload_n (np := 6) B.1 dX8_readForm_5 rfl rfl ?_
  refine g_iconst (np := 7) (v := 0) B.1 dX8_readForm_6 (by decide) rfl ?_
  refine gp_YScript_40_11 (np := 10) B.1 dX8_readForm_7 rfl ?_
  refine g_mem (fun s2 es2 => ?_)
  replace h := h s2 es2
  obtain ⟨m14, h⟩ := h
  refine Go.lle [some (.ref (xad (fX K) 11 0))] (by simp [lle]) ?_
  refine oX8_readForm_10 B    (fun s10 h => ?_) (fun s11 h => ?_) (fun s12 h => ?_) (fun s13 h => ?_) (Nat.le_of_ble_eq_true rfl) (Nat.le_of_ble_eq_true rfl) m14   s2 h
  · refine g_aload_n (np := 30) B.1 dX8_readForm_29 rfl rfl ?_
    refine gf_YScript_44_11 (np := 33) B.1 dX8_readForm_30 rfl ?_
    exact g_iret B (ty := .int) rfl rfl (Nat.le_of_ble_eq_true rfl) (Nat.le_of_ble_eq_true rfl) dX8_readForm_33 ⟨_, rfl, h⟩
  · refine g_iconst (np := 59) (v := (-1)) B.1 dX8_readForm_58 (by decide) rfl ?_
    exact g_iret B (ty := .int) rfl rfl (Nat.le_of_ble_eq_true rfl) (Nat.le_of_ble_eq_true rfl) dX8_readForm_59 ⟨_, rfl, h⟩
  · refine g_aload_n (np := 70) B.1 dX8_readForm_69 rfl rfl ?_
    refine gf_YScript_44_11 (np := 73) B.1 dX8_readForm_70 rfl ?_
    exact g_iret B (ty := .int) rfl rfl (Nat.le_of_ble_eq_true rfl) (Nat.le_of_ble_eq_true rfl) dX8_readForm_73 ⟨_, rfl, h⟩
  · refine g_aload_n (np := 75) B.1 dX8_readForm_74 rfl rfl ?_
    refine gf_YScript_44_11 (np := 78) B.1 dX8_readForm_75 rfl ?_
    exact g_iret B (ty := .int) rfl rfl (Nat.le_of_ble_eq_true rfl) (Nat.le_of_ble_eq_true rfl) dX8_readForm_78 ⟨_, rfl, h⟩
