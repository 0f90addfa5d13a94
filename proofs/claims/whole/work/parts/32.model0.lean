def wX13_thrown   (s0 : Mem) (Q : Int32 → Mem → Prop) (E : String → Mem → Prop) : Prop := Q (rd s0 15 0 7) s0
set_option maxRecDepth 20000 in
set_option maxHeartbeats 4000000 in
theorem oX13_thrown {l : Launch} {x : Ctx} (hl : l.stackTraces = false)     (s0 : Mem) (Q : Int32 → Mem → Prop) (E : String → Mem → Prop) (h : wX13_thrown   s0 Q E) : MetG l x yX13_thrown cX13_thrown 1 (some .int) 0 0 0 0 [.ref (xad x 15 0)] s0 (RI Q) E := by
  refine MetG.of hl (by decide) (Nat.le_of_ble_eq_true rfl) [some (.ref (xad x 15 0))] rfl (fun K B hx _ => ?_)
  subst hx
  unfold wX13_thrown at h
  refine g_aload_n (np := 1) B.1 dX13_thrown_0 rfl rfl ?_
  refine gf_YModel_44_15 (np := 4) B.1 dX13_thrown_1 rfl ?_
  exact g_iret B (ty := .int) rfl rfl (Nat.le_of_ble_eq_true rfl) (Nat.le_of_ble_eq_true rfl) dX13_thrown_4 ⟨_, rfl, h⟩
def wX13_isIn  (a1 : Int32) (a2 : Int32) (a3 : Int32) (s0 : Mem) (Q : Int32 → Mem → Prop) (E : String → Mem → Prop) : Prop := ((a1 < a2 → Q 0 s0) ∧ (¬ a1 < a2 → ((a3 < a1 → Q 0 s0) ∧ (¬ a3 < a1 → Q 1 s0))))
set_option maxRecDepth 20000 in
set_option maxHeartbeats 4000000 in
theorem oX13_isIn {l : Launch} {x : Ctx} (hl : l.stackTraces = false)   (a1 : Int32) (a2 : Int32) (a3 : Int32)  (s0 : Mem) (Q : Int32 → Mem → Prop) (E : String → Mem → Prop) (h : wX13_isIn  a1 a2 a3 s0 Q E) : MetG l x yX13_isIn cX13_isIn 3 (some .boolean) 0 0 0 0 [.int a1, .int a2, .int a3] s0 (RI Q) E := by
  refine MetG.of hl (by decide) (Nat.le_of_ble_eq_true rfl) [some (.int a1), some (.int a2), some (.int a3)] rfl (fun K B hx _ => ?_)
  subst hx
  unfold wX13_isIn at h
  refine g_iload_n (np := 1) B.1 dX13_isIn_0 rfl rfl ?_
  refine g_iload_n (np := 2) B.1 dX13_isIn_1 rfl rfl ?_
  refine g_icmp_lt (np := 5) (tgt := 14) B.1 dX13_isIn_2 (by decide) rfl (fun q => ?_) (fun q => ?_)
  · replace h := h.1 q
    refine g_iconst (np := 15) (v := 0) B.1 dX13_isIn_14 (by decide) rfl ?_
    exact g_iret B (ty := .boolean) rfl (by decide) (Nat.le_of_ble_eq_true rfl) (Nat.le_of_ble_eq_true rfl) dX13_isIn_15 ⟨_, rfl, h⟩
  · replace h := h.2 q
    refine g_iload_n (np := 6) B.1 dX13_isIn_5 rfl rfl ?_
    refine g_iload_n (np := 7) B.1 dX13_isIn_6 rfl rfl ?_
    refine g_icmp_gt (np := 10) (tgt := 14) B.1 dX13_isIn_7 (by decide) rfl (fun q => ?_) (fun q => ?_)
    · replace h := h.1 q
      refine g_iconst (np := 15) (v := 0) B.1 dX13_isIn_14 (by decide) rfl ?_
      exact g_iret B (ty := .boolean) rfl (by decide) (Nat.le_of_ble_eq_true rfl) (Nat.le_of_ble_eq_true rfl) dX13_isIn_15 ⟨_, rfl, h⟩
    · replace h := h.2 q
      refine g_iconst (np := 11) (v := 1) B.1 dX13_isIn_10 (by decide) rfl ?_
      refine g_goto (tgt := 15) B.1 dX13_isIn_11 (by decide) ?_
      exact g_iret B (ty := .boolean) rfl (by decide) (Nat.le_of_ble_eq_true rfl) (Nat.le_of_ble_eq_true rfl) dX13_isIn_15 ⟨_, rfl, h⟩
def wX13_copies_3 (k : Nat) (k2 : Nat)  (Q : Mem → Prop) (E : String → Mem → Prop)  (X28 : Mem → Prop) : Nat → Int32 → Int32 → Int32 → Mem → Prop
  | 0, _, _, _, _ => False
  | n3 + 1, v1, v3, v4, s0 => ((90 ≤ v4 → X28  s0) ∧ (¬ 90 ≤ v4 → vp_in (v1 + v4) (iaLen k) ∧ vp_in (v3 + v4) (iaLen k2) ∧ ∀ s1 : Mem, s1 = wr s0 10 k2 (v3 + v4).toNatClampNeg (rd s0 10 k (v1 + v4).toNatClampNeg) → ∀ v4_2 : Int32, v4_2 = (v4 + 1) → wX13_copies_3 k k2  Q E X28 n3 v1 v3 v4_2 s1))
def wX13_copies (k : Nat) (k2 : Nat) (a2 : Int32) (a4 : Int32) (s0 : Mem) (Q : Mem → Prop) (E : String → Mem → Prop) : Prop := ∃ m4 : Nat, wX13_copies_3 k k2  Q E (fun (s3 : Mem) => Q s3) m4 a2 a4 0  s0
set_option maxRecDepth 20000 in
set_option maxHeartbeats 4000000 in
theorem oX13_copies_3 {K : Fr} {Q : Mem → Prop} {E : String → Mem → Prop} (B : Bd K cX13_copies "YarnMillModel" 5 none 0 0 0 0 (RV Q) E) (k : Nat) (k2 : Nat)  (hk : k < 17) (hk2 : k2 < 17) {X28 : Mem → Prop} {cells slots : Nat} (hX28 : ∀ (τ : Mem), X28  τ → Go K cells slots τ 28 [none, none, none, none, none] ([])) (hc : cells ≤ 0) (hs : slots ≤ 0) : ∀ (n : Nat) (v1 : Int32) (v3 : Int32) (v4 : Int32) (s0 : Mem), wX13_copies_3 k k2  Q E X28 n v1 v3 v4 s0 → Go K cells slots s0 3 [some (.ref (xad (fX K) 10 k)), some (.int v1), some (.ref (xad (fX K) 10 k2)), some (.int v3), some (.int v4)] ([]) := by
  intro n
  induction n with
  | zero => intro v1 v3 v4 s0 h; exact absurd h (by simp [wX13_copies_3])
  | succ n ih =>
    intro v1 v3 v4 s0 h
    simp only [wX13_copies_3] at h
    refine g_iload (np := 5) B.1 dX13_copies_3 rfl rfl ?_
    refine g_bipush (np := 7) (v := 90) B.1 dX13_copies_5 (by decide) rfl ?_
    refine g_icmp_ge (np := 10) (tgt := 28) B.1 dX13_copies_7 (by decide) rfl (fun q => ?_) (fun q => ?_)
    · replace h := h.1 q
      refine Go.lle [none, none, none, none, none] (by simp [lle]) ?_
      exact hX28  s0 h
    · replace h := h.2 q
      refine g_aload_n (np := 11) B.1 dX13_copies_10 rfl rfl ?_
      refine g_iload_n (np := 12) B.1 dX13_copies_11 rfl rfl ?_
      refine g_iload (np := 14) B.1 dX13_copies_12 rfl rfl ?_
      refine g_iadd (np := 15) B.1 dX13_copies_14 rfl ?_
      refine g_aload_n (np := 16) B.1 dX13_copies_15 rfl rfl ?_
      refine g_iload_n (np := 17) B.1 dX13_copies_16 rfl rfl ?_
      refine g_iload (np := 19) B.1 dX13_copies_17 rfl rfl ?_
      refine g_iadd (np := 20) B.1 dX13_copies_19 rfl ?_
      refine g_iald (np := 21) B.1 10 k hk rfl rfl h.1 dX13_copies_20 rfl ?_
      replace h := h.2
      refine g_iast (np := 22) B.1 10 k2 hk2 rfl (fun _ _ => rfl) h.1 dX13_copies_21 rfl ?_
      replace h := h.2
      refine g_mem (fun s1 es1 => ?_)
      replace h := h s1 es1
      obtain ⟨v4_2, ev4_2⟩ : ∃ y : Int32, y = v4 + 1 := ⟨_, rfl⟩
      replace h := h v4_2 ev4_2
      refine g_iinc (np := 25) (v := v4_2) (lv' := [some (.ref (xad (fX K) 10 k)), some (.int v1), some (.ref (xad (fX K) 10 k2)), some (.int v3), some (.int v4_2)]) B.1 dX13_copies_22 rfl (by rw [ev4_2]; rfl) (by decide) rfl rfl rfl ?_
      refine g_goto (tgt := 3) B.1 dX13_copies_25 (by decide) ?_
      refine Go.lle [some (.ref (xad (fX K) 10 k)), some (.int v1), some (.ref (xad (fX K) 10 k2)), some (.int v3), some (.int v4_2)] (by simp [lle]) ?_
      exact ih v1 v3 v4_2 s1 h
set_option maxRecDepth 20000 in
set_option maxHeartbeats 4000000 in
theorem oX13_copies {l : Launch} {x : Ctx} (hl : l.stackTraces = false) (k : Nat) (k2 : Nat) (hk : k < 17) (hk2 : k2 < 17) (a2 : Int32) (a4 : Int32)  (s0 : Mem) (Q : Mem → Prop) (E : String → Mem → Prop) (h : wX13_copies k k2 a2 a4 s0 Q E) : MetG l x yX13_copies cX13_copies 5 none 0 0 0 0 [.ref (xad x 10 k), .int a2, .ref (xad x 10 k2), .int a4] s0 (RV Q) E := by
  refine MetG.of hl (by decide) (Nat.le_of_ble_eq_true rfl) [some (.ref (xad x 10 k)), some (.int a2), some (.ref (xad x 10 k2)), some (.int a4), none] rfl (fun K B hx _ => ?_)
  subst hx
  unfold wX13_copies at h
  refine g_iconst (np := 1) (v := 0) B.1 dX13_copies_0 (by decide) rfl ?_
  refine g_istore (np := 3) (lv' := [some (.ref (xad (fX K) 10 k)), some (.int a2), some (.ref (xad (fX K) 10 k2)), some (.int a4), some (.int 0)]) B.1 dX13_copies_1 (by decide) rfl rfl rfl ?_
  obtain ⟨m4, h⟩ := h
  refine Go.lle [some (.ref (xad (fX K) 10 k)), some (.int a2), some (.ref (xad (fX K) 10 k2)), some (.int a4), some (.int 0)] (by simp [lle]) ?_
  refine oX13_copies_3 B k k2  hk hk2 (fun s3 h => ?_) (Nat.le_of_ble_eq_true rfl) (Nat.le_of_ble_eq_true rfl) m4 a2 a4 0  s0 h
  exact g_vret B rfl (Nat.le_of_ble_eq_true rfl) (Nat.le_of_ble_eq_true rfl) dX13_copies_28 ⟨rfl, h⟩
def wX13_keeps   (s0 : Mem) (Q : Mem → Prop) (E : String → Mem → Prop) : Prop := wX13_copies 8 9 0 0 s0 (fun (s2 : Mem) => ∀ s3 : Mem, s3 = wr s2 15 0 7 0 → Q s3) E
set_option maxRecDepth 20000 in
set_option maxHeartbeats 4000000 in
theorem oX13_keeps {l : Launch} {x : Ctx} (hl : l.stackTraces = false)     (s0 : Mem) (Q : Mem → Prop) (E : String → Mem → Prop) (h : wX13_keeps   s0 Q E) : MetG l x yX13_keeps cX13_keeps 1 none 1 24 0 0 [.ref (xad x 15 0)] s0 (RV Q) E := by
  refine MetG.of hl (by decide) (Nat.le_of_ble_eq_true rfl) [some (.ref (xad x 15 0))] rfl (fun K B hx _ => ?_)
  subst hx
  unfold wX13_keeps at h
  refine g_aload_n (np := 1) B.1 dX13_keeps_0 rfl rfl ?_
  refine gf_YModel_9_15 (np := 4) B.1 dX13_keeps_1 rfl ?_
  refine g_iconst (np := 5) (v := 0) B.1 dX13_keeps_4 (by decide) rfl ?_
  refine g_aload_n (np := 6) B.1 dX13_keeps_5 rfl rfl ?_
  refine gf_YModel_13_15 (np := 9) B.1 dX13_keeps_6 rfl ?_
  refine g_iconst (np := 10) (v := 0) B.1 dX13_keeps_9 (by decide) rfl ?_
  refine gc_YModel_47 (np := 13) B 8 9 (by decide) (by decide) (oX13_copies B.1.tr 8 9 (by decide) (by decide) 0 0  _ _ _ h) (Nat.le_of_ble_eq_true rfl) (Nat.le_of_ble_eq_true rfl) (Nat.le_of_ble_eq_true rfl) (Nat.le_of_ble_eq_true rfl) (Nat.le_of_ble_eq_true rfl) dX13_keeps_10 rfl (fun s2 h => ?_)
  refine g_aload_n (np := 14) B.1 dX13_keeps_13 rfl rfl ?_
  refine g_iconst (np := 15) (v := 0) B.1 dX13_keeps_14 (by decide) rfl ?_
  refine gp_YModel_44_15 (np := 18) B.1 dX13_keeps_15 rfl ?_
  refine g_mem (fun s3 es3 => ?_)
  replace h := h s3 es3
  exact g_vret B rfl (Nat.le_of_ble_eq_true rfl) (Nat.le_of_ble_eq_true rfl) dX13_keeps_18 ⟨rfl, h⟩
def wX13_ends_20   (Q : Int32 → Mem → Prop) (E : String → Mem → Prop)  (X53 : Int32 → Mem → Prop) : Nat → Int32 → Int32 → Mem → Prop
  | 0, _, _, _ => False
  | n20 + 1, v1, v2, s0 => ((8 ≤ v2 → X53 v1 s0) ∧ (¬ 8 ≤ v2 → wX13_copies 11 11 (90 * v2) (90 * (v2 - 1)) s0 (fun (s5 : Mem) => ∀ v2_6 : Int32, v2_6 = (v2 + 1) → wX13_ends_20   Q E X53 n20 v1 v2_6 s5) E))
def wX13_ends  (a1 : Int32) (s0 : Mem) (Q : Int32 → Mem → Prop) (E : String → Mem → Prop) : Prop := ((rd s0 15 0 7 = 0 → ((¬ rd s0 15 0 6 = 8 → wX13_copies 9 11 0 (90 * (rd s0 15 0 6)) s0 (fun (s2 : Mem) => ∀ s3 : Mem, s3 = wr s2 15 0 6 ((rd s2 15 0 6) + 1) → Q a1 s3) E) ∧ (rd s0 15 0 6 = 8 → ∃ m13 : Nat, wX13_ends_20   Q E (fun (x1_7 : Int32) (s8 : Mem) => ∀ s9 : Mem, s9 = wr s8 15 0 6 ((rd s8 15 0 6) - 1) → wX13_copies 9 11 0 (90 * (rd s9 15 0 6)) s9 (fun (s11 : Mem) => ∀ s12 : Mem, s12 = wr s11 15 0 6 ((rd s11 15 0 6) + 1) → Q x1_7 s12) E) m13 a1 1  s0))) ∧ (¬ rd s0 15 0 7 = 0 → Q 0 s0))
set_option maxRecDepth 20000 in
set_option maxHeartbeats 4000000 in
theorem oX13_ends_20 {K : Fr} {Q : Int32 → Mem → Prop} {E : String → Mem → Prop} (B : Bd K cX13_ends "YarnMillModel" 3 (some .int) 1 24 0 0 (RI Q) E)    {X53 : Int32 → Mem → Prop} {cells slots : Nat} (hX53 : ∀ (y1 : Int32) (τ : Mem), X53 y1 τ → Go K cells slots τ 53 [some (.ref (xad (fX K) 15 0)), some (.int y1), none] ([])) (hc : cells ≤ 0) (hs : slots ≤ 0) : ∀ (n : Nat) (v1 : Int32) (v2 : Int32) (s0 : Mem), wX13_ends_20   Q E X53 n v1 v2 s0 → Go K cells slots s0 20 [some (.ref (xad (fX K) 15 0)), some (.int v1), some (.int v2)] ([]) := by
  intro n
  induction n with
  | zero => intro v1 v2 s0 h; exact absurd h (by simp [wX13_ends_20])
  | succ n ih =>
    intro v1 v2 s0 h
    simp only [wX13_ends_20] at h
    refine g_iload_n (np := 21) B.1 dX13_ends_20 rfl rfl ?_
    refine g_bipush (np := 23) (v := 8) B.1 dX13_ends_21 (by decide) rfl ?_
    refine g_icmp_ge (np := 26) (tgt := 53) B.1 dX13_ends_23 (by decide) rfl (fun q => ?_) (fun q => ?_)
    · replace h := h.1 q
      refine Go.lle [some (.ref (xad (fX K) 15 0)), some (.int v1), none] (by simp [lle]) ?_
      exact hX53 v1 s0 h
    · replace h := h.2 q
      refine g_aload_n (np := 27) B.1 dX13_ends_26 rfl rfl ?_
      refine gf_YModel_19_15 (np := 30) B.1 dX13_ends_27 rfl ?_
      refine g_bipush (np := 32) (v := 90) B.1 dX13_ends_30 (by decide) rfl ?_
      refine g_iload_n (np := 33) B.1 dX13_ends_32 rfl rfl ?_
      refine g_imul (np := 34) B.1 dX13_ends_33 rfl ?_
      refine g_aload_n (np := 35) B.1 dX13_ends_34 rfl rfl ?_
      refine gf_YModel_19_15 (np := 38) B.1 dX13_ends_35 rfl ?_
      refine g_bipush (np := 40) (v := 90) B.1 dX13_ends_38 (by decide) rfl ?_
      refine g_iload_n (np := 41) B.1 dX13_ends_40 rfl rfl ?_
      refine g_iconst (np := 42) (v := 1) B.1 dX13_ends_41 (by decide) rfl ?_
      refine g_isub (np := 43) B.1 dX13_ends_42 rfl ?_
      refine g_imul (np := 44) B.1 dX13_ends_43 rfl ?_
      refine gc_YModel_47 (np := 47) B 11 11 (by decide) (by decide) (oX13_copies B.1.tr 11 11 (by decide) (by decide) (90 * v2) (90 * (v2 - 1))  _ _ _ h) (Nat.le_of_ble_eq_true rfl) (Nat.le_of_ble_eq_true rfl) (Nat.le_of_ble_eq_true rfl) hc hs dX13_ends_44 rfl (fun s5 h => ?_)
      obtain ⟨v2_6, ev2_6⟩ : ∃ y : Int32, y = v2 + 1 := ⟨_, rfl⟩
      replace h := h v2_6 ev2_6
      refine g_iinc (np := 50) (v := v2_6) (lv' := [some (.ref (xad (fX K) 15 0)), some (.int v1), some (.int v2_6)]) B.1 dX13_ends_47 rfl (by rw [ev2_6]; rfl) (by decide) rfl rfl rfl ?_
      refine g_goto (tgt := 20) B.1 dX13_ends_50 (by decide) ?_
      refine Go.lle [some (.ref (xad (fX K) 15 0)), some (.int v1), some (.int v2_6)] (by simp [lle]) ?_
      exact ih v1 v2_6 s5 h
set_option maxRecDepth 20000 in
set_option maxHeartbeats 4000000 in
theorem oX13_ends {l : Launch} {x : Ctx} (hl : l.stackTraces = false)   (a1 : Int32)  (s0 : Mem) (Q : Int32 → Mem → Prop) (E : String → Mem → Prop) (h : wX13_ends  a1 s0 Q E) : MetG l x yX13_ends cX13_ends 3 (some .int) 1 24 0 0 [.ref (xad x 15 0), .int a1] s0 (RI Q) E := by
  refine MetG.of hl (by decide) (Nat.le_of_ble_eq_true rfl) [some (.ref (xad x 15 0)), some (.int a1), none] rfl (fun K B hx _ => ?_)
  subst hx
  unfold wX13_ends at h
  refine g_aload_n (np := 1) B.1 dX13_ends_0 rfl rfl ?_
  refine gf_YModel_44_15 (np := 4) B.1 dX13_ends_1 rfl ?_
  refine g_if_eq (np := 7) (tgt := 9) B.1 dX13_ends_4 (by decide) rfl (fun q => ?_) (fun q => ?_)
  · replace h := h.1 q
    refine g_aload_n (np := 10) B.1 dX13_ends_9 rfl rfl ?_
    refine gf_YModel_51_15 (np := 13) B.1 dX13_ends_10 rfl ?_
    refine g_bipush (np := 15) (v := 8) B.1 dX13_ends_13 (by decide) rfl ?_
    refine g_icmp_ne (np := 18) (tgt := 63) B.1 dX13_ends_15 (by decide) rfl (fun q => ?_) (fun q => ?_)
    · replace h := h.1 q
      refine g_aload_n (np := 64) B.1 dX13_ends_63 rfl rfl ?_
      refine gf_YModel_13_15 (np := 67) B.1 dX13_ends_64 rfl ?_
      refine g_iconst (np := 68) (v := 0) B.1 dX13_ends_67 (by decide) rfl ?_
      refine g_aload_n (np := 69) B.1 dX13_ends_68 rfl rfl ?_
      refine gf_YModel_19_15 (np := 72) B.1 dX13_ends_69 rfl ?_
      refine g_bipush (np := 74) (v := 90) B.1 dX13_ends_72 (by decide) rfl ?_
      refine g_aload_n (np := 75) B.1 dX13_ends_74 rfl rfl ?_
      refine gf_YModel_51_15 (np := 78) B.1 dX13_ends_75 rfl ?_
      refine g_imul (np := 79) B.1 dX13_ends_78 rfl ?_
      refine gc_YModel_47 (np := 82) B 9 11 (by decide) (by decide) (oX13_copies B.1.tr 9 11 (by decide) (by decide) 0 (90 * (rd s0 15 0 6))  _ _ _ h) (Nat.le_of_ble_eq_true rfl) (Nat.le_of_ble_eq_true rfl) (Nat.le_of_ble_eq_true rfl) (Nat.le_of_ble_eq_true rfl) (Nat.le_of_ble_eq_true rfl) dX13_ends_79 rfl (fun s2 h => ?_)
      refine g_aload_n (np := 83) B.1 dX13_ends_82 rfl rfl ?_
      refine g_dup (np := 84) B.1 dX13_ends_83 rfl rfl ?_
      refine gf_YModel_51_15 (np := 87) B.1 dX13_ends_84 rfl ?_
      refine g_iconst (np := 88) (v := 1) B.1 dX13_ends_87 (by decide) rfl ?_
      refine g_iadd (np := 89) B.1 dX13_ends_88 rfl ?_
      refine gp_YModel_51_15 (np := 92) B.1 dX13_ends_89 rfl ?_
      refine g_mem (fun s3 es3 => ?_)
      replace h := h s3 es3
      refine g_iload_n (np := 93) B.1 dX13_ends_92 rfl rfl ?_
      exact g_iret B (ty := .int) rfl rfl (Nat.le_of_ble_eq_true rfl) (Nat.le_of_ble_eq_true rfl) dX13_ends_93 ⟨_, rfl, h⟩
    · replace h := h.2 q
      refine g_iconst (np := 19) (v := 1) B.1 dX13_ends_18 (by decide) rfl ?_
      refine g_istore_n (np := 20) (lv' := [some (.ref (xad (fX K) 15 0)), some (.int a1), some (.int 1)]) B.1 dX13_ends_19 (by decide) rfl rfl rfl ?_
      obtain ⟨m13, h⟩ := h
      refine Go.lle [some (.ref (xad (fX K) 15 0)), some (.int a1), some (.int 1)] (by simp [lle]) ?_
      refine oX13_ends_20 B    (fun x1_7 s8 h => ?_) (Nat.le_of_ble_eq_true rfl) (Nat.le_of_ble_eq_true rfl) m13 a1 1  s0 h
      refine g_aload_n (np := 54) B.1 dX13_ends_53 rfl rfl ?_
      refine g_dup (np := 55) B.1 dX13_ends_54 rfl rfl ?_
      refine gf_YModel_51_15 (np := 58) B.1 dX13_ends_55 rfl ?_
      refine g_iconst (np := 59) (v := 1) B.1 dX13_ends_58 (by decide) rfl ?_
      refine g_isub (np := 60) B.1 dX13_ends_59 rfl ?_
      refine gp_YModel_51_15 (np := 63) B.1 dX13_ends_60 rfl ?_
      refine g_mem (fun s9 es9 => ?_)
      replace h := h s9 es9
      refine g_aload_n (np := 64) B.1 dX13_ends_63 rfl rfl ?_
      refine gf_YModel_13_15 (np := 67) B.1 dX13_ends_64 rfl ?_
      refine g_iconst (np := 68) (v := 0) B.1 dX13_ends_67 (by decide) rfl ?_
      refine g_aload_n (np := 69) B.1 dX13_ends_68 rfl rfl ?_
      refine gf_YModel_19_15 (np := 72) B.1 dX13_ends_69 rfl ?_
      refine g_bipush (np := 74) (v := 90) B.1 dX13_ends_72 (by decide) rfl ?_
      refine g_aload_n (np := 75) B.1 dX13_ends_74 rfl rfl ?_
      refine gf_YModel_51_15 (np := 78) B.1 dX13_ends_75 rfl ?_
      refine g_imul (np := 79) B.1 dX13_ends_78 rfl ?_
      refine gc_YModel_47 (np := 82) B 9 11 (by decide) (by decide) (oX13_copies B.1.tr 9 11 (by decide) (by decide) 0 (90 * (rd s9 15 0 6))  _ _ _ h) (Nat.le_of_ble_eq_true rfl) (Nat.le_of_ble_eq_true rfl) (Nat.le_of_ble_eq_true rfl) (Nat.le_of_ble_eq_true rfl) (Nat.le_of_ble_eq_true rfl) dX13_ends_79 rfl (fun s11 h => ?_)
      refine g_aload_n (np := 83) B.1 dX13_ends_82 rfl rfl ?_
      refine g_dup (np := 84) B.1 dX13_ends_83 rfl rfl ?_
      refine gf_YModel_51_15 (np := 87) B.1 dX13_ends_84 rfl ?_
      refine g_iconst (np := 88) (v := 1) B.1 dX13_ends_87 (by decide) rfl ?_
      refine g_iadd (np := 89) B.1 dX13_ends_88 rfl ?_
      refine gp_YModel_51_15 (np := 92) B.1 dX13_ends_89 rfl ?_
      refine g_mem (fun s12 es12 => ?_)
      replace h := h s12 es12
      refine g_iload_n (np := 93) B.1 dX13_ends_92 rfl rfl ?_
      exact g_iret B (ty := .int) rfl rfl (Nat.le_of_ble_eq_true rfl) (Nat.le_of_ble_eq_true rfl) dX13_ends_93 ⟨_, rfl, h⟩
  · replace h := h.2 q
    refine g_iconst (np := 8) (v := 0) B.1 dX13_ends_7 (by decide) rfl ?_
    exact g_iret B (ty := .int) rfl rfl (Nat.le_of_ble_eq_true rfl) (Nat.le_of_ble_eq_true rfl) dX13_ends_8 ⟨_, rfl, h⟩
def wX13_isThrown  (a1 : Int32) (a2 : Int32) (s0 : Mem) (Q : Int32 → Mem → Prop) (E : String → Mem → Prop) : Prop := ((a1 = 0 → ∀ s1 : Mem, s1 = wr s0 15 0 7 0 → (a1 = 0 ∨ a1 = 1) ∧ Q a1 s1) ∧ (¬ a1 = 0 → ∀ s2 : Mem, s2 = wr s0 15 0 7 a2 → (a1 = 0 ∨ a1 = 1) ∧ Q a1 s2))
set_option maxRecDepth 20000 in
set_option maxHeartbeats 4000000 in
theorem oX13_isThrown {l : Launch} {x : Ctx} (hl : l.stackTraces = false)   (a1 : Int32) (a2 : Int32)  (s0 : Mem) (Q : Int32 → Mem → Prop) (E : String → Mem → Prop) (h : wX13_isThrown  a1 a2 s0 Q E) : MetG l x yX13_isThrown cX13_isThrown 3 (some .boolean) 0 0 0 0 [.ref (xad x 15 0), .int a1, .int a2] s0 (RI Q) E := by
  refine MetG.of hl (by decide) (Nat.le_of_ble_eq_true rfl) [some (.ref (xad x 15 0)), some (.int a1), some (.int a2)] rfl (fun K B hx _ => ?_)
  subst hx
  unfold wX13_isThrown at h
  refine g_aload_n (np := 1) B.1 dX13_isThrown_0 rfl rfl ?_
  refine g_iload_n (np := 2) B.1 dX13_isThrown_1 rfl rfl ?_
  refine g_if_eq (np := 5) (tgt := 9) B.1 dX13_isThrown_2 (by decide) rfl (fun q => ?_) (fun q => ?_)
  · replace h := h.1 q
    refine g_iconst (np := 10) (v := 0) B.1 dX13_isThrown_9 (by decide) rfl ?_
    refine gp_YModel_44_15 (np := 13) B.1 dX13_isThrown_10 rfl ?_
    refine g_mem (fun s1 es1 => ?_)
    replace h := h s1 es1
    refine g_iload_n (np := 14) B.1 dX13_isThrown_13 rfl rfl ?_
    exact g_iret B (ty := .boolean) rfl (nar_z h.1) (Nat.le_of_ble_eq_true rfl) (Nat.le_of_ble_eq_true rfl) dX13_isThrown_14 ⟨_, rfl, h.2⟩
  · replace h := h.2 q
    refine g_iload_n (np := 6) B.1 dX13_isThrown_5 rfl rfl ?_
    refine g_goto (tgt := 10) B.1 dX13_isThrown_6 (by decide) ?_
    refine gp_YModel_44_15 (np := 13) B.1 dX13_isThrown_10 rfl ?_
    refine g_mem (fun s2 es2 => ?_)
    replace h := h s2 es2
    refine g_iload_n (np := 14) B.1 dX13_isThrown_13 rfl rfl ?_
    exact g_iret B (ty := .boolean) rfl (nar_z h.1) (Nat.le_of_ble_eq_true rfl) (Nat.le_of_ble_eq_true rfl) dX13_isThrown_14 ⟨_, rfl, h.2⟩
def wX13_ofBale  (a1 : Int32) (a2 : Int32) (s0 : Mem) (Q : Int32 → Mem → Prop) (E : String → Mem → Prop) : Prop := vp_in ((14 + (4 * a1)) + a2) (iaLen 8) ∧ Q (rd s0 10 8 ((14 + (4 * a1)) + a2).toNatClampNeg) s0
set_option maxRecDepth 20000 in
set_option maxHeartbeats 4000000 in
theorem oX13_ofBale {l : Launch} {x : Ctx} (hl : l.stackTraces = false)   (a1 : Int32) (a2 : Int32)  (s0 : Mem) (Q : Int32 → Mem → Prop) (E : String → Mem → Prop) (h : wX13_ofBale  a1 a2 s0 Q E) : MetG l x yX13_ofBale cX13_ofBale 3 (some .int) 0 0 0 0 [.ref (xad x 15 0), .int a1, .int a2] s0 (RI Q) E := by
  refine MetG.of hl (by decide) (Nat.le_of_ble_eq_true rfl) [some (.ref (xad x 15 0)), some (.int a1), some (.int a2)] rfl (fun K B hx _ => ?_)
  subst hx
  unfold wX13_ofBale at h
  refine g_aload_n (np := 1) B.1 dX13_ofBale_0 rfl rfl ?_
  refine gf_YModel_9_15 (np := 4) B.1 dX13_ofBale_1 rfl ?_
  refine g_bipush (np := 6) (v := 14) B.1 dX13_ofBale_4 (by decide) rfl ?_
  refine g_iconst (np := 7) (v := 4) B.1 dX13_ofBale_6 (by decide) rfl ?_
  refine g_iload_n (np := 8) B.1 dX13_ofBale_7 rfl rfl ?_
  refine g_imul (np := 9) B.1 dX13_ofBale_8 rfl ?_
  refine g_iadd (np := 10) B.1 dX13_ofBale_9 rfl ?_
  refine g_iload_n (np := 11) B.1 dX13_ofBale_10 rfl rfl ?_
  refine g_iadd (np := 12) B.1 dX13_ofBale_11 rfl ?_
  refine g_iald (np := 13) B.1 10 8 (by decide) rfl rfl h.1 dX13_ofBale_12 rfl ?_
  replace h := h.2
  exact g_iret B (ty := .int) rfl rfl (Nat.le_of_ble_eq_true rfl) (Nat.le_of_ble_eq_true rfl) dX13_ofBale_13 ⟨_, rfl, h⟩
def wX13_ofOrder  (a1 : Int32) (a2 : Int32) (s0 : Mem) (Q : Int32 → Mem → Prop) (E : String → Mem → Prop) : Prop := vp_in ((54 + (3 * a1)) + a2) (iaLen 8) ∧ Q (rd s0 10 8 ((54 + (3 * a1)) + a2).toNatClampNeg) s0
set_option maxRecDepth 20000 in
set_option maxHeartbeats 4000000 in
theorem oX13_ofOrder {l : Launch} {x : Ctx} (hl : l.stackTraces = false)   (a1 : Int32) (a2 : Int32)  (s0 : Mem) (Q : Int32 → Mem → Prop) (E : String → Mem → Prop) (h : wX13_ofOrder  a1 a2 s0 Q E) : MetG l x yX13_ofOrder cX13_ofOrder 3 (some .int) 0 0 0 0 [.ref (xad x 15 0), .int a1, .int a2] s0 (RI Q) E := by
  refine MetG.of hl (by decide) (Nat.le_of_ble_eq_true rfl) [some (.ref (xad x 15 0)), some (.int a1), some (.int a2)] rfl (fun K B hx _ => ?_)
  subst hx
  unfold wX13_ofOrder at h
  refine g_aload_n (np := 1) B.1 dX13_ofOrder_0 rfl rfl ?_
  refine gf_YModel_9_15 (np := 4) B.1 dX13_ofOrder_1 rfl ?_
  refine g_bipush (np := 6) (v := 54) B.1 dX13_ofOrder_4 (by decide) rfl ?_
  refine g_iconst (np := 7) (v := 3) B.1 dX13_ofOrder_6 (by decide) rfl ?_
  refine g_iload_n (np := 8) B.1 dX13_ofOrder_7 rfl rfl ?_
  refine g_imul (np := 9) B.1 dX13_ofOrder_8 rfl ?_
  refine g_iadd (np := 10) B.1 dX13_ofOrder_9 rfl ?_
  refine g_iload_n (np := 11) B.1 dX13_ofOrder_10 rfl rfl ?_
  refine g_iadd (np := 12) B.1 dX13_ofOrder_11 rfl ?_
  refine g_iald (np := 13) B.1 10 8 (by decide) rfl rfl h.1 dX13_ofOrder_12 rfl ?_
  replace h := h.2
  exact g_iret B (ty := .int) rfl rfl (Nat.le_of_ble_eq_true rfl) (Nat.le_of_ble_eq_true rfl) dX13_ofOrder_13 ⟨_, rfl, h⟩
def wX13_bale_2   (Q : Int32 → Mem → Prop) (E : String → Mem → Prop)  (X23 : Int32 → Mem → Prop) (X31 : Mem → Prop) : Nat → Int32 → Int32 → Mem → Prop
  | 0, _, _, _ => False
  | n2 + 1, v1, v2, s0 => ((rd s0 10 8 11 ≤ v2 → X31  s0) ∧ (¬ rd s0 10 8 11 ≤ v2 → wX13_ofBale  v2 0 s0 (fun (r1 : Int32) (s2 : Mem) => ((¬ r1 = v1 → ∀ v2_3 : Int32, v2_3 = (v2 + 1) → wX13_bale_2   Q E X23 X31 n2 v1 v2_3 s2) ∧ (r1 = v1 → X23 v2 s2))) E))
def wX13_bale  (a1 : Int32) (s0 : Mem) (Q : Int32 → Mem → Prop) (E : String → Mem → Prop) : Prop := ∃ m7 : Nat, wX13_bale_2   Q E (fun (x2_4 : Int32) (s5 : Mem) => Q x2_4 s5) (fun (s6 : Mem) => Q ((-1)) s6) m7 a1 0  s0
set_option maxRecDepth 20000 in
set_option maxHeartbeats 4000000 in
theorem oX13_bale_2 {K : Fr} {Q : Int32 → Mem → Prop} {E : String → Mem → Prop} (B : Bd K cX13_bale "YarnMillModel" 3 (some .int) 1 22 0 0 (RI Q) E)    {X23 : Int32 → Mem → Prop} {X31 : Mem → Prop} {cells slots : Nat} (hX23 : ∀ (y2 : Int32) (τ : Mem), X23 y2 τ → Go K cells slots τ 23 [none, none, some (.int y2)] ([])) (hX31 : ∀ (τ : Mem), X31  τ → Go K cells slots τ 31 [none, none, none] ([])) (hc : cells ≤ 0) (hs : slots ≤ 0) : ∀ (n : Nat) (v1 : Int32) (v2 : Int32) (s0 : Mem), wX13_bale_2   Q E X23 X31 n v1 v2 s0 → Go K cells slots s0 2 [some (.ref (xad (fX K) 15 0)), some (.int v1), some (.int v2)] ([]) := by
  intro n
  induction n with
  | zero => intro v1 v2 s0 h; exact absurd h (by simp [wX13_bale_2])
  | succ n ih =>
    intro v1 v2 s0 h
    simp only [wX13_bale_2] at h
    refine g_iload_n (np := 3) B.1 dX13_bale_2 rfl rfl ?_
    refine g_aload_n (np := 4) B.1 dX13_bale_3 rfl rfl ?_
    refine gf_YModel_9_15 (np := 7) B.1 dX13_bale_4 rfl ?_
    refine g_bipush (np := 9) (v := 11) B.1 dX13_bale_7 (by decide) rfl ?_
    refine g_ialdL (np := 10) B.1 10 8 (by decide) rfl rfl 11 (by decide) (vpl (by decide)) dX13_bale_9 rfl ?_
    refine g_icmp_ge (np := 13) (tgt := 31) B.1 dX13_bale_10 (by decide) rfl (fun q => ?_) (fun q => ?_)
    · replace h := h.1 q
      refine Go.lle [none, none, none] (by simp [lle]) ?_
      exact hX31  s0 h
    · replace h := h.2 q
      refine g_aload_n (np := 14) B.1 dX13_bale_13 rfl rfl ?_
      refine g_iload_n (np := 15) B.1 dX13_bale_14 rfl rfl ?_
      refine g_iconst (np := 16) (v := 0) B.1 dX13_bale_15 (by decide) rfl ?_
      refine gc_YModel_54 (np := 19) B   (oX13_ofBale B.1.tr   v2 0  _ _ _ h) (Nat.le_of_ble_eq_true rfl) (Nat.le_of_ble_eq_true rfl) (Nat.le_of_ble_eq_true rfl) hc hs dX13_bale_16 rfl (fun r1 s2 h => ?_)
      refine g_iload_n (np := 20) B.1 dX13_bale_19 rfl rfl ?_
      refine g_icmp_ne (np := 23) (tgt := 25) B.1 dX13_bale_20 (by decide) rfl (fun q => ?_) (fun q => ?_)
      · replace h := h.1 q
        obtain ⟨v2_3, ev2_3⟩ : ∃ y : Int32, y = v2 + 1 := ⟨_, rfl⟩
        replace h := h v2_3 ev2_3
        refine g_iinc (np := 28) (v := v2_3) (lv' := [some (.ref (xad (fX K) 15 0)), some (.int v1), some (.int v2_3)]) B.1 dX13_bale_25 rfl (by rw [ev2_3]; rfl) (by decide) rfl rfl rfl ?_
        refine g_goto (tgt := 2) B.1 dX13_bale_28 (by decide) ?_
        refine Go.lle [some (.ref (xad (fX K) 15 0)), some (.int v1), some (.int v2_3)] (by simp [lle]) ?_
        exact ih v1 v2_3 s2 h
      · replace h := h.2 q
        refine Go.lle [none, none, some (.int v2)] (by simp [lle]) ?_
        exact hX23 v2 s2 h
set_option maxRecDepth 20000 in
set_option maxHeartbeats 4000000 in
theorem oX13_bale {l : Launch} {x : Ctx} (hl : l.stackTraces = false)   (a1 : Int32)  (s0 : Mem) (Q : Int32 → Mem → Prop) (E : String → Mem → Prop) (h : wX13_bale  a1 s0 Q E) : MetG l x yX13_bale cX13_bale 3 (some .int) 1 22 0 0 [.ref (xad x 15 0), .int a1] s0 (RI Q) E := by
  refine MetG.of hl (by decide) (Nat.le_of_ble_eq_true rfl) [some (.ref (xad x 15 0)), some (.int a1), none] rfl (fun K B hx _ => ?_)
  subst hx
  unfold wX13_bale at h
  refine g_iconst (np := 1) (v := 0) B.1 dX13_bale_0 (by decide) rfl ?_
  refine g_istore_n (np := 2) (lv' := [some (.ref (xad (fX K) 15 0)), some (.int a1), some (.int 0)]) B.1 dX13_bale_1 (by decide) rfl rfl rfl ?_
  obtain ⟨m7, h⟩ := h
  refine Go.lle [some (.ref (xad (fX K) 15 0)), some (.int a1), some (.int 0)] (by simp [lle]) ?_
  refine oX13_bale_2 B    (fun x2_4 s5 h => ?_) (fun s6 h => ?_) (Nat.le_of_ble_eq_true rfl) (Nat.le_of_ble_eq_true rfl) m7 a1 0  s0 h
  · refine g_iload_n (np := 24) B.1 dX13_bale_23 rfl rfl ?_
    exact g_iret B (ty := .int) rfl rfl (Nat.le_of_ble_eq_true rfl) (Nat.le_of_ble_eq_true rfl) dX13_bale_24 ⟨_, rfl, h⟩
  · refine g_iconst (np := 32) (v := (-1)) B.1 dX13_bale_31 (by decide) rfl ?_
    exact g_iret B (ty := .int) rfl rfl (Nat.le_of_ble_eq_true rfl) (Nat.le_of_ble_eq_true rfl) dX13_bale_32 ⟨_, rfl, h⟩
def wX13_order_2   (Q : Int32 → Mem → Prop) (E : String → Mem → Prop)  (X23 : Int32 → Mem → Prop) (X31 : Mem → Prop) : Nat → Int32 → Int32 → Mem → Prop
  | 0, _, _, _ => False
  | n2 + 1, v1, v2, s0 => ((rd s0 10 8 12 ≤ v2 → X31  s0) ∧ (¬ rd s0 10 8 12 ≤ v2 → wX13_ofOrder  v2 0 s0 (fun (r1 : Int32) (s2 : Mem) => ((¬ r1 = v1 → ∀ v2_3 : Int32, v2_3 = (v2 + 1) → wX13_order_2   Q E X23 X31 n2 v1 v2_3 s2) ∧ (r1 = v1 → X23 v2 s2))) E))
def wX13_order  (a1 : Int32) (s0 : Mem) (Q : Int32 → Mem → Prop) (E : String → Mem → Prop) : Prop := ∃ m7 : Nat, wX13_order_2   Q E (fun (x2_4 : Int32) (s5 : Mem) => Q x2_4 s5) (fun (s6 : Mem) => Q ((-1)) s6) m7 a1 0  s0
set_option maxRecDepth 20000 in
set_option maxHeartbeats 4000000 in
theorem oX13_order_2 {K : Fr} {Q : Int32 → Mem → Prop} {E : String → Mem → Prop} (B : Bd K cX13_order "YarnMillModel" 3 (some .int) 1 22 0 0 (RI Q) E)    {X23 : Int32 → Mem → Prop} {X31 : Mem → Prop} {cells slots : Nat} (hX23 : ∀ (y2 : Int32) (τ : Mem), X23 y2 τ → Go K cells slots τ 23 [none, none, some (.int y2)] ([])) (hX31 : ∀ (τ : Mem), X31  τ → Go K cells slots τ 31 [none, none, none] ([])) (hc : cells ≤ 0) (hs : slots ≤ 0) : ∀ (n : Nat) (v1 : Int32) (v2 : Int32) (s0 : Mem), wX13_order_2   Q E X23 X31 n v1 v2 s0 → Go K cells slots s0 2 [some (.ref (xad (fX K) 15 0)), some (.int v1), some (.int v2)] ([]) := by
  intro n
  induction n with
  | zero => intro v1 v2 s0 h; exact absurd h (by simp [wX13_order_2])
  | succ n ih =>
    intro v1 v2 s0 h
    simp only [wX13_order_2] at h
    refine g_iload_n (np := 3) B.1 dX13_order_2 rfl rfl ?_
    refine g_aload_n (np := 4) B.1 dX13_order_3 rfl rfl ?_
    refine gf_YModel_9_15 (np := 7) B.1 dX13_order_4 rfl ?_
    refine g_bipush (np := 9) (v := 12) B.1 dX13_order_7 (by decide) rfl ?_
    refine g_ialdL (np := 10) B.1 10 8 (by decide) rfl rfl 12 (by decide) (vpl (by decide)) dX13_order_9 rfl ?_
    refine g_icmp_ge (np := 13) (tgt := 31) B.1 dX13_order_10 (by decide) rfl (fun q => ?_) (fun q => ?_)
    · replace h := h.1 q
      refine Go.lle [none, none, none] (by simp [lle]) ?_
      exact hX31  s0 h
    · replace h := h.2 q
      refine g_aload_n (np := 14) B.1 dX13_order_13 rfl rfl ?_
      refine g_iload_n (np := 15) B.1 dX13_order_14 rfl rfl ?_
      refine g_iconst (np := 16) (v := 0) B.1 dX13_order_15 (by decide) rfl ?_
      refine gc_YModel_58 (np := 19) B   (oX13_ofOrder B.1.tr   v2 0  _ _ _ h) (Nat.le_of_ble_eq_true rfl) (Nat.le_of_ble_eq_true rfl) (Nat.le_of_ble_eq_true rfl) hc hs dX13_order_16 rfl (fun r1 s2 h => ?_)
      refine g_iload_n (np := 20) B.1 dX13_order_19 rfl rfl ?_
      refine g_icmp_ne (np := 23) (tgt := 25) B.1 dX13_order_20 (by decide) rfl (fun q => ?_) (fun q => ?_)
      · replace h := h.1 q
        obtain ⟨v2_3, ev2_3⟩ : ∃ y : Int32, y = v2 + 1 := ⟨_, rfl⟩
        replace h := h v2_3 ev2_3
        refine g_iinc (np := 28) (v := v2_3) (lv' := [some (.ref (xad (fX K) 15 0)), some (.int v1), some (.int v2_3)]) B.1 dX13_order_25 rfl (by rw [ev2_3]; rfl) (by decide) rfl rfl rfl ?_
        refine g_goto (tgt := 2) B.1 dX13_order_28 (by decide) ?_
        refine Go.lle [some (.ref (xad (fX K) 15 0)), some (.int v1), some (.int v2_3)] (by simp [lle]) ?_
        exact ih v1 v2_3 s2 h
      · replace h := h.2 q
        refine Go.lle [none, none, some (.int v2)] (by simp [lle]) ?_
        exact hX23 v2 s2 h
set_option maxRecDepth 20000 in
set_option maxHeartbeats 4000000 in
theorem oX13_order {l : Launch} {x : Ctx} (hl : l.stackTraces = false)   (a1 : Int32)  (s0 : Mem) (Q : Int32 → Mem → Prop) (E : String → Mem → Prop) (h : wX13_order  a1 s0 Q E) : MetG l x yX13_order cX13_order 3 (some .int) 1 22 0 0 [.ref (xad x 15 0), .int a1] s0 (RI Q) E := by
  refine MetG.of hl (by decide) (Nat.le_of_ble_eq_true rfl) [some (.ref (xad x 15 0)), some (.int a1), none] rfl (fun K B hx _ => ?_)
  subst hx
  unfold wX13_order at h
  refine g_iconst (np := 1) (v := 0) B.1 dX13_order_0 (by decide) rfl ?_
  refine g_istore_n (np := 2) (lv' := [some (.ref (xad (fX K) 15 0)), some (.int a1), some (.int 0)]) B.1 dX13_order_1 (by decide) rfl rfl rfl ?_
  obtain ⟨m7, h⟩ := h
  refine Go.lle [some (.ref (xad (fX K) 15 0)), some (.int a1), some (.int 0)] (by simp [lle]) ?_
  refine oX13_order_2 B    (fun x2_4 s5 h => ?_) (fun s6 h => ?_) (Nat.le_of_ble_eq_true rfl) (Nat.le_of_ble_eq_true rfl) m7 a1 0  s0 h
  · refine g_iload_n (np := 24) B.1 dX13_order_23 rfl rfl ?_
    exact g_iret B (ty := .int) rfl rfl (Nat.le_of_ble_eq_true rfl) (Nat.le_of_ble_eq_true rfl) dX13_order_24 ⟨_, rfl, h⟩
  · refine g_iconst (np := 32) (v := (-1)) B.1 dX13_order_31 (by decide) rfl ?_
    exact g_iret B (ty := .int) rfl rfl (Nat.le_of_ble_eq_true rfl) (Nat.le_of_ble_eq_true rfl) dX13_order_32 ⟨_, rfl, h⟩
def wX13_closes_3   (Q : Mem → Prop) (E : String → Mem → Prop)  (X33 : Int32 → Int32 → Mem → Prop) : Nat → Int32 → Int32 → Int32 → Mem → Prop
  | 0, _, _, _, _ => False
  | n3 + 1, v2, v3, v4, s0 => ((v3 - v2 ≤ v4 → X33 v2 v3 s0) ∧ (¬ v3 - v2 ≤ v4 → vp_in (v4 + v2) (iaLen 8) ∧ vp_in v4 (iaLen 8) ∧ ∀ s1 : Mem, s1 = wr s0 10 8 v4.toNatClampNeg (rd s0 10 8 (v4 + v2).toNatClampNeg) → ∀ v4_2 : Int32, v4_2 = (v4 + 1) → wX13_closes_3   Q E X33 n3 v2 v3 v4_2 s1))
def wX13_closes_38   (Q : Mem → Prop) (E : String → Mem → Prop)  (X58 : Mem → Prop) : Nat → Int32 → Int32 → Mem → Prop
  | 0, _, _, _ => False
  | n38 + 1, v3, v4, s0 => ((v3 ≤ v4 → X58  s0) ∧ (¬ v3 ≤ v4 → vp_in v4 (iaLen 8) ∧ ∀ s7 : Mem, s7 = wr s0 10 8 v4.toNatClampNeg 0 → ∀ v4_8 : Int32, v4_8 = (v4 + 1) → wX13_closes_38   Q E X58 n38 v3 v4_8 s7))
def wX13_closes  (a1 : Int32) (a2 : Int32) (a3 : Int32) (s0 : Mem) (Q : Mem → Prop) (E : String → Mem → Prop) : Prop := ∃ m11 : Nat, wX13_closes_3   Q E (fun (x2_3 : Int32) (x3_4 : Int32) (s5 : Mem) => ∀ v4_6 : Int32, v4_6 = (x3_4 - x2_3) → ∃ m10 : Nat, wX13_closes_38   Q E (fun (s9 : Mem) => Q s9) m10 x3_4 v4_6  s5) m11 a2 a3 a1  s0
set_option maxRecDepth 20000 in
set_option maxHeartbeats 4000000 in
theorem oX13_closes_3 {K : Fr} {Q : Mem → Prop} {E : String → Mem → Prop} (B : Bd K cX13_closes "YarnMillModel" 5 none 0 0 0 0 (RV Q) E)    {X33 : Int32 → Int32 → Mem → Prop} {cells slots : Nat} (hX33 : ∀ (y2 : Int32) (y3 : Int32) (τ : Mem), X33 y2 y3 τ → Go K cells slots τ 33 [some (.ref (xad (fX K) 15 0)), none, some (.int y2), some (.int y3), none] ([])) (hc : cells ≤ 0) (hs : slots ≤ 0) : ∀ (n : Nat) (v2 : Int32) (v3 : Int32) (v4 : Int32) (s0 : Mem), wX13_closes_3   Q E X33 n v2 v3 v4 s0 → Go K cells slots s0 3 [some (.ref (xad (fX K) 15 0)), none, some (.int v2), some (.int v3), some (.int v4)] ([]) := by
  intro n
  induction n with
  | zero => intro v2 v3 v4 s0 h; exact absurd h (by simp [wX13_closes_3])
  | succ n ih =>
    intro v2 v3 v4 s0 h
    simp only [wX13_closes_3] at h
    refine g_iload (np := 5) B.1 dX13_closes_3 rfl rfl ?_
    refine g_iload_n (np := 6) B.1 dX13_closes_5 rfl rfl ?_
    refine g_iload_n (np := 7) B.1 dX13_closes_6 rfl rfl ?_
    refine g_isub (np := 8) B.1 dX13_closes_7 rfl ?_
    refine g_icmp_ge (np := 11) (tgt := 33) B.1 dX13_closes_8 (by decide) rfl (fun q => ?_) (fun q => ?_)
    · replace h := h.1 q
      refine Go.lle [some (.ref (xad (fX K) 15 0)), none, some (.int v2), some (.int v3), none] (by simp [lle]) ?_
      exact hX33 v2 v3 s0 h
    · replace h := h.2 q
      refine g_aload_n (np := 12) B.1 dX13_closes_11 rfl rfl ?_
      refine gf_YModel_9_15 (np := 15) B.1 dX13_closes_12 rfl ?_
      refine g_iload (np := 17) B.1 dX13_closes_15 rfl rfl ?_
      refine g_aload_n (np := 18) B.1 dX13_closes_17 rfl rfl ?_
      refine gf_YModel_9_15 (np := 21) B.1 dX13_closes_18 rfl ?_
      refine g_iload (np := 23) B.1 dX13_closes_21 rfl rfl ?_
      refine g_iload_n (np := 24) B.1 dX13_closes_23 rfl rfl ?_
      refine g_iadd (np := 25) B.1 dX13_closes_24 rfl ?_
      refine g_iald (np := 26) B.1 10 8 (by decide) rfl rfl h.1 dX13_closes_25 rfl ?_
      replace h := h.2
      refine g_iast (np := 27) B.1 10 8 (by decide) rfl (fun _ _ => rfl) h.1 dX13_closes_26 rfl ?_
      replace h := h.2
      refine g_mem (fun s1 es1 => ?_)
      replace h := h s1 es1
      obtain ⟨v4_2, ev4_2⟩ : ∃ y : Int32, y = v4 + 1 := ⟨_, rfl⟩
      replace h := h v4_2 ev4_2
      refine g_iinc (np := 30) (v := v4_2) (lv' := [some (.ref (xad (fX K) 15 0)), none, some (.int v2), some (.int v3), some (.int v4_2)]) B.1 dX13_closes_27 rfl (by rw [ev4_2]; rfl) (by decide) rfl rfl rfl ?_
      refine g_goto (tgt := 3) B.1 dX13_closes_30 (by decide) ?_
      refine Go.lle [some (.ref (xad (fX K) 15 0)), none, some (.int v2), some (.int v3), some (.int v4_2)] (by simp [lle]) ?_
      exact ih v2 v3 v4_2 s1 h
set_option maxRecDepth 20000 in
set_option maxHeartbeats 4000000 in
theorem oX13_closes_38 {K : Fr} {Q : Mem → Prop} {E : String → Mem → Prop} (B : Bd K cX13_closes "YarnMillModel" 5 none 0 0 0 0 (RV Q) E)    {X58 : Mem → Prop} {cells slots : Nat} (hX58 : ∀ (τ : Mem), X58  τ → Go K cells slots τ 58 [none, none, none, none, none] ([])) (hc : cells ≤ 0) (hs : slots ≤ 0) : ∀ (n : Nat) (v3 : Int32) (v4 : Int32) (s0 : Mem), wX13_closes_38   Q E X58 n v3 v4 s0 → Go K cells slots s0 38 [some (.ref (xad (fX K) 15 0)), none, none, some (.int v3), some (.int v4)] ([]) := by
  intro n
  induction n with
  | zero => intro v3 v4 s0 h; exact absurd h (by simp [wX13_closes_38])
  | succ n ih =>
    intro v3 v4 s0 h
    simp only [wX13_closes_38] at h
    refine g_iload (np := 40) B.1 dX13_closes_38 rfl rfl ?_
    refine g_iload_n (np := 41) B.1 dX13_closes_40 rfl rfl ?_
    refine g_icmp_ge (np := 44) (tgt := 58) B.1 dX13_closes_41 (by decide) rfl (fun q => ?_) (fun q => ?_)
    · replace h := h.1 q
      refine Go.lle [none, none, none, none, none] (by simp [lle]) ?_
      exact hX58  s0 h
    · replace h := h.2 q
      refine g_aload_n (np := 45) B.1 dX13_closes_44 rfl rfl ?_
      refine gf_YModel_9_15 (np := 48) B.1 dX13_closes_45 rfl ?_
      refine g_iload (np := 50) B.1 dX13_closes_48 rfl rfl ?_
      refine g_iconst (np := 51) (v := 0) B.1 dX13_closes_50 (by decide) rfl ?_
      refine g_iast (np := 52) B.1 10 8 (by decide) rfl (fun _ _ => rfl) h.1 dX13_closes_51 rfl ?_
      replace h := h.2
      refine g_mem (fun s7 es7 => ?_)
      replace h := h s7 es7
      obtain ⟨v4_8, ev4_8⟩ : ∃ y : Int32, y = v4 + 1 := ⟨_, rfl⟩
      replace h := h v4_8 ev4_8
      refine g_iinc (np := 55) (v := v4_8) (lv' := [some (.ref (xad (fX K) 15 0)), none, none, some (.int v3), some (.int v4_8)]) B.1 dX13_closes_52 rfl (by rw [ev4_8]; rfl) (by decide) rfl rfl rfl ?_
      refine g_goto (tgt := 38) B.1 dX13_closes_55 (by decide) ?_
      refine Go.lle [some (.ref (xad (fX K) 15 0)), none, none, some (.int v3), some (.int v4_8)] (by simp [lle]) ?_
      exact ih v3 v4_8 s7 h
set_option maxRecDepth 20000 in
set_option maxHeartbeats 4000000 in
theorem oX13_closes {l : Launch} {x : Ctx} (hl : l.stackTraces = false)   (a1 : Int32) (a2 : Int32) (a3 : Int32)  (s0 : Mem) (Q : Mem → Prop) (E : String → Mem → Prop) (h : wX13_closes  a1 a2 a3 s0 Q E) : MetG l x yX13_closes cX13_closes 5 none 0 0 0 0 [.ref (xad x 15 0), .int a1, .int a2, .int a3] s0 (RV Q) E := by
  refine MetG.of hl (by decide) (Nat.le_of_ble_eq_true rfl) [some (.ref (xad x 15 0)), some (.int a1), some (.int a2), some (.int a3), none] rfl (fun K B hx _ => ?_)
  subst hx
  unfold wX13_closes at h
  refine g_iload_n (np := 1) B.1 dX13_closes_0 rfl rfl ?_
  refine g_istore (np := 3) (lv' := [some (.ref (xad (fX K) 15 0)), some (.int a1), some (.int a2), some (.int a3), some (.int a1)]) B.1 dX13_closes_1 (by decide) rfl rfl rfl ?_
  obtain ⟨m11, h⟩ := h
  refine Go.lle [some (.ref (xad (fX K) 15 0)), none, some (.int a2), some (.int a3), some (.int a1)] (by simp [lle]) ?_
  refine oX13_closes_3 B    (fun x2_3 x3_4 s5 h => ?_) (Nat.le_of_ble_eq_true rfl) (Nat.le_of_ble_eq_true rfl) m11 a2 a3 a1  s0 h
  refine g_iload_n (np := 34) B.1 dX13_closes_33 rfl rfl ?_
  refine g_iload_n (np := 35) B.1 dX13_closes_34 rfl rfl ?_
  refine g_isub (np := 36) B.1 dX13_closes_35 rfl ?_
  refine g_topi (fun v4_6 ev4_6 => ?_)
  replace h := h v4_6 ev4_6
  refine g_istore (np := 38) (lv' := [some (.ref (xad (fX K) 15 0)), none, some (.int x2_3), some (.int x3_4), some (.int v4_6)]) B.1 dX13_closes_36 (by decide) rfl rfl rfl ?_
  obtain ⟨m10, h⟩ := h
  refine Go.lle [some (.ref (xad (fX K) 15 0)), none, none, some (.int x3_4), some (.int v4_6)] (by simp [lle]) ?_
  refine oX13_closes_38 B    (fun s9 h => ?_) (Nat.le_of_ble_eq_true rfl) (Nat.le_of_ble_eq_true rfl) m10 x3_4 v4_6  s5 h
  exact g_vret B rfl (Nat.le_of_ble_eq_true rfl) (Nat.le_of_ble_eq_true rfl) dX13_closes_58 ⟨rfl, h⟩
def wX13_buys_99   (Q : Int32 → Mem → Prop) (E : String → Mem → Prop)   : Int32 → Int32 → Int32 → Int32 → Mem → Prop := fun v1 v2 v3 z0 s0 => wX13_isThrown  z0 3 s0 (fun (r7 : Int32) (s8 : Mem) => ((r7 = 0 → ∀ v5_9 : Int32, v5_9 = (14 + (4 * (rd s8 10 8 11))) → vp_in (v5_9 + 0) (iaLen 8) ∧ ∀ s10 : Mem, s10 = wr s8 10 8 (v5_9 + 0).toNatClampNeg (rd s8 10 8 9) → vp_in (v5_9 + 1) (iaLen 8) ∧ ∀ s11 : Mem, s11 = wr s10 10 8 (v5_9 + 1).toNatClampNeg v1 → vp_in (v5_9 + 2) (iaLen 8) ∧ ∀ s12 : Mem, s12 = wr s11 10 8 (v5_9 + 2).toNatClampNeg v2 → vp_in (v5_9 + 3) (iaLen 8) ∧ ∀ s13 : Mem, s13 = wr s12 10 8 (v5_9 + 3).toNatClampNeg v3 → ∀ s14 : Mem, s14 = wr s13 10 8 0 ((rd s13 10 8 0) - (v1 * v3)) → ∀ s15 : Mem, s15 = wr s14 10 8 4 ((rd s14 10 8 4) + (v1 * v3)) → ∀ s16 : Mem, s16 = wr s15 10 8 11 ((rd s15 10 8 11) + 1) → ∀ s17 : Mem, s17 = wr s16 10 8 9 ((rd s16 10 8 9) + 1) → Q ((rd s17 10 8 9) - 1) s17) ∧ (¬ r7 = 0 → Q 0 s8))) E
def wX13_buys_74   (Q : Int32 → Mem → Prop) (E : String → Mem → Prop)   : Int32 → Int32 → Int32 → Int32 → Mem → Prop := fun v1 v2 v3 z0 s0 => wX13_isThrown  z0 2 s0 (fun (r5 : Int32) (s6 : Mem) => ((¬ r5 = 0 → Q 0 s6) ∧ (r5 = 0 → ((v1 * v3 ≤ rd s6 10 8 0 → wX13_buys_99   Q E  v1 v2 v3 0 s6) ∧ (¬ v1 * v3 ≤ rd s6 10 8 0 → wX13_buys_99   Q E  v1 v2 v3 1 s6))))) E
def wX13_buys_49   (Q : Int32 → Mem → Prop) (E : String → Mem → Prop)   : Int32 → Int32 → Int32 → Int32 → Mem → Prop := fun v1 v2 v3 z0 s0 => wX13_isThrown  z0 1 s0 (fun (r3 : Int32) (s4 : Mem) => ((¬ r3 = 0 → Q 0 s4) ∧ (r3 = 0 → ((¬ rd s4 10 8 11 = 10 → wX13_buys_74   Q E  v1 v2 v3 0 s4) ∧ (rd s4 10 8 11 = 10 → wX13_buys_74   Q E  v1 v2 v3 1 s4))))) E
def wX13_buys_36   (Q : Int32 → Mem → Prop) (E : String → Mem → Prop)   : Int32 → Int32 → Int32 → Int32 → Mem → Prop := fun v1 v2 v3 z0 s0 => ((¬ z0 = 0 → wX13_buys_49   Q E  v1 v2 v3 0 s0) ∧ (z0 = 0 → wX13_buys_49   Q E  v1 v2 v3 1 s0))
def wX13_buys_35   (Q : Int32 → Mem → Prop) (E : String → Mem → Prop)   : Int32 → Int32 → Int32 → Mem → Prop := fun v1 v2 v3 s0 => wX13_buys_36   Q E  v1 v2 v3 0 s0
def wX13_buys  (a1 : Int32) (a2 : Int32) (a3 : Int32) (s0 : Mem) (Q : Int32 → Mem → Prop) (E : String → Mem → Prop) : Prop := wX13_isIn  a1 1 50 s0 (fun (r1 : Int32) (s2 : Mem) => ((r1 = 0 → wX13_buys_35   Q E  a1 a2 a3  s2) ∧ (¬ r1 = 0 → wX13_isIn  a2 10 60 s2 (fun (r18 : Int32) (s19 : Mem) => ((r18 = 0 → wX13_buys_35   Q E  a1 a2 a3  s19) ∧ (¬ r18 = 0 → wX13_isIn  a3 1 20 s19 (fun (r20 : Int32) (s21 : Mem) => ((r20 = 0 → wX13_buys_35   Q E  a1 a2 a3  s21) ∧ (¬ r20 = 0 → wX13_buys_36   Q E  a1 a2 a3 1 s21))) E))) E))) E
set_option maxRecDepth 20000 in
set_option maxHeartbeats 4000000 in
theorem oX13_buys_99 {K : Fr} {Q : Int32 → Mem → Prop} {E : String → Mem → Prop} (B : Bd K cX13_buys "YarnMillModel" 6 (some .int) 1 22 0 0 (RI Q) E)     {cells slots : Nat}  (hc : cells ≤ 0) (hs : slots ≤ 0) : ∀ (v1 : Int32) (v2 : Int32) (v3 : Int32) (z0 : Int32) (s0 : Mem), wX13_buys_99   Q E  v1 v2 v3 z0 s0 → Go K cells slots s0 99 [some (.ref (xad (fX K) 15 0)), some (.int v1), some (.int v2), some (.int v3), none, none] (.int z0 :: .ref (xad (fX K) 15 0) :: []) := by
  intro v1 v2 v3 z0 s0 h
  unfold wX13_buys_99 at h
  refine g_iconst (np := 100) (v := 3) B.1 dX13_buys_99 (by decide) rfl ?_
  refine gc_YModel_65 (np := 103) B   (oX13_isThrown B.1.tr   z0 3  _ _ _ h) (Nat.le_of_ble_eq_true rfl) (Nat.le_of_ble_eq_true rfl) (Nat.le_of_ble_eq_true rfl) hc hs dX13_buys_100 rfl (fun r7 s8 h => ?_)
  refine g_if_eq (np := 106) (tgt := 108) B.1 dX13_buys_103 (by decide) rfl (fun q => ?_) (fun q => ?_)
  · replace h := h.1 q
    refine g_bipush (np := 110) (v := 14) B.1 dX13_buys_108 (by decide) rfl ?_
    refine g_iconst (np := 111) (v := 4) B.1 dX13_buys_110 (by decide) rfl ?_
    refine g_aload_n (np := 112) B.1 dX13_buys_111 rfl rfl ?_
    refine gf_YModel_9_15 (np := 115) B.1 dX13_buys_112 rfl ?_
    refine g_bipush (np := 117) (v := 11) B.1 dX13_buys_115 (by decide) rfl ?_
    refine g_ialdL (np := 118) B.1 10 8 (by decide) rfl rfl 11 (by decide) (vpl (by decide)) dX13_buys_117 rfl ?_
    refine g_imul (np := 119) B.1 dX13_buys_118 rfl ?_
    refine g_iadd (np := 120) B.1 dX13_buys_119 rfl ?_
    refine g_topi (fun v5_9 ev5_9 => ?_)
    replace h := h v5_9 ev5_9
    refine g_istore (np := 122) (lv' := [some (.ref (xad (fX K) 15 0)), some (.int v1), some (.int v2), some (.int v3), none, some (.int v5_9)]) B.1 dX13_buys_120 (by decide) rfl rfl rfl ?_
    refine g_aload_n (np := 123) B.1 dX13_buys_122 rfl rfl ?_
    refine gf_YModel_9_15 (np := 126) B.1 dX13_buys_123 rfl ?_
    refine g_iload (np := 128) B.1 dX13_buys_126 rfl rfl ?_
    refine g_iconst (np := 129) (v := 0) B.1 dX13_buys_128 (by decide) rfl ?_
    refine g_iadd (np := 130) B.1 dX13_buys_129 rfl ?_
    refine g_aload_n (np := 131) B.1 dX13_buys_130 rfl rfl ?_
    refine gf_YModel_9_15 (np := 134) B.1 dX13_buys_131 rfl ?_
    refine g_bipush (np := 136) (v := 9) B.1 dX13_buys_134 (by decide) rfl ?_
    refine g_ialdL (np := 137) B.1 10 8 (by decide) rfl rfl 9 (by decide) (vpl (by decide)) dX13_buys_136 rfl ?_
    refine g_iast (np := 138) B.1 10 8 (by decide) rfl (fun _ _ => rfl) h.1 dX13_buys_137 rfl ?_
    replace h := h.2
    refine g_mem (fun s10 es10 => ?_)
    replace h := h s10 es10
    refine g_aload_n (np := 139) B.1 dX13_buys_138 rfl rfl ?_
    refine gf_YModel_9_15 (np := 142) B.1 dX13_buys_139 rfl ?_
    refine g_iload (np := 144) B.1 dX13_buys_142 rfl rfl ?_
    refine g_iconst (np := 145) (v := 1) B.1 dX13_buys_144 (by decide) rfl ?_
    refine g_iadd (np := 146) B.1 dX13_buys_145 rfl ?_
    refine g_iload_n (np := 147) B.1 dX13_buys_146 rfl rfl ?_
    refine g_iast (np := 148) B.1 10 8 (by decide) rfl (fun _ _ => rfl) h.1 dX13_buys_147 rfl ?_
    replace h := h.2
    refine g_mem (fun s11 es11 => ?_)
    replace h := h s11 es11
    refine g_aload_n (np := 149) B.1 dX13_buys_148 rfl rfl ?_
    refine gf_YModel_9_15 (np := 152) B.1 dX13_buys_149 rfl ?_
    refine g_iload (np := 154) B.1 dX13_buys_152 rfl rfl ?_
    refine g_iconst (np := 155) (v := 2) B.1 dX13_buys_154 (by decide) rfl ?_
    refine g_iadd (np := 156) B.1 dX13_buys_155 rfl ?_
    refine g_iload_n (np := 157) B.1 dX13_buys_156 rfl rfl ?_
    refine g_iast (np := 158) B.1 10 8 (by decide) rfl (fun _ _ => rfl) h.1 dX13_buys_157 rfl ?_
    replace h := h.2
    refine g_mem (fun s12 es12 => ?_)
    replace h := h s12 es12
    refine g_aload_n (np := 159) B.1 dX13_buys_158 rfl rfl ?_
    refine gf_YModel_9_15 (np := 162) B.1 dX13_buys_159 rfl ?_
    refine g_iload (np := 164) B.1 dX13_buys_162 rfl rfl ?_
    refine g_iconst (np := 165) (v := 3) B.1 dX13_buys_164 (by decide) rfl ?_
    refine g_iadd (np := 166) B.1 dX13_buys_165 rfl ?_
    refine g_iload_n (np := 167) B.1 dX13_buys_166 rfl rfl ?_
    refine g_iast (np := 168) B.1 10 8 (by decide) rfl (fun _ _ => rfl) h.1 dX13_buys_167 rfl ?_
    replace h := h.2
    refine g_mem (fun s13 es13 => ?_)
    replace h := h s13 es13
    refine g_aload_n (np := 169) B.1 dX13_buys_168 rfl rfl ?_
    refine gf_YModel_9_15 (np := 172) B.1 dX13_buys_169 rfl ?_
    refine g_iconst (np := 173) (v := 0) B.1 dX13_buys_172 (by decide) rfl ?_
    refine g_dup2 (np := 174) B.1 dX13_buys_173 rfl rfl rfl ?_
    refine g_ialdL (np := 175) B.1 10 8 (by decide) rfl rfl 0 (by decide) (vpl (by decide)) dX13_buys_174 rfl ?_
    refine g_iload_n (np := 176) B.1 dX13_buys_175 rfl rfl ?_
    refine g_iload_n (np := 177) B.1 dX13_buys_176 rfl rfl ?_
    refine g_imul (np := 178) B.1 dX13_buys_177 rfl ?_
    refine g_isub (np := 179) B.1 dX13_buys_178 rfl ?_
    refine g_iastL (np := 180) B.1 10 8 (by decide) rfl (fun _ _ => rfl) 0 (by decide) (vpl (by decide)) dX13_buys_179 rfl ?_
    refine g_mem (fun s14 es14 => ?_)
    replace h := h s14 es14
    refine g_aload_n (np := 181) B.1 dX13_buys_180 rfl rfl ?_
    refine gf_YModel_9_15 (np := 184) B.1 dX13_buys_181 rfl ?_
    refine g_iconst (np := 185) (v := 4) B.1 dX13_buys_184 (by decide) rfl ?_
    refine g_dup2 (np := 186) B.1 dX13_buys_185 rfl rfl rfl ?_
    refine g_ialdL (np := 187) B.1 10 8 (by decide) rfl rfl 4 (by decide) (vpl (by decide)) dX13_buys_186 rfl ?_
    refine g_iload_n (np := 188) B.1 dX13_buys_187 rfl rfl ?_
    refine g_iload_n (np := 189) B.1 dX13_buys_188 rfl rfl ?_
    refine g_imul (np := 190) B.1 dX13_buys_189 rfl ?_
    refine g_iadd (np := 191) B.1 dX13_buys_190 rfl ?_
    refine g_iastL (np := 192) B.1 10 8 (by decide) rfl (fun _ _ => rfl) 4 (by decide) (vpl (by decide)) dX13_buys_191 rfl ?_
    refine g_mem (fun s15 es15 => ?_)
    replace h := h s15 es15
    refine g_aload_n (np := 193) B.1 dX13_buys_192 rfl rfl ?_
    refine gf_YModel_9_15 (np := 196) B.1 dX13_buys_193 rfl ?_
    refine g_bipush (np := 198) (v := 11) B.1 dX13_buys_196 (by decide) rfl ?_
    refine g_dup2 (np := 199) B.1 dX13_buys_198 rfl rfl rfl ?_
    refine g_ialdL (np := 200) B.1 10 8 (by decide) rfl rfl 11 (by decide) (vpl (by decide)) dX13_buys_199 rfl ?_
    refine g_iconst (np := 201) (v := 1) B.1 dX13_buys_200 (by decide) rfl ?_
    refine g_iadd (np := 202) B.1 dX13_buys_201 rfl ?_
    refine g_iastL (np := 203) B.1 10 8 (by decide) rfl (fun _ _ => rfl) 11 (by decide) (vpl (by decide)) dX13_buys_202 rfl ?_
    refine g_mem (fun s16 es16 => ?_)
    replace h := h s16 es16
    refine g_aload_n (np := 204) B.1 dX13_buys_203 rfl rfl ?_
    refine gf_YModel_9_15 (np := 207) B.1 dX13_buys_204 rfl ?_
    refine g_bipush (np := 209) (v := 9) B.1 dX13_buys_207 (by decide) rfl ?_
    refine g_dup2 (np := 210) B.1 dX13_buys_209 rfl rfl rfl ?_
    refine g_ialdL (np := 211) B.1 10 8 (by decide) rfl rfl 9 (by decide) (vpl (by decide)) dX13_buys_210 rfl ?_
    refine g_iconst (np := 212) (v := 1) B.1 dX13_buys_211 (by decide) rfl ?_
    refine g_iadd (np := 213) B.1 dX13_buys_212 rfl ?_
    refine g_iastL (np := 214) B.1 10 8 (by decide) rfl (fun _ _ => rfl) 9 (by decide) (vpl (by decide)) dX13_buys_213 rfl ?_
    refine g_mem (fun s17 es17 => ?_)
    replace h := h s17 es17
    refine g_aload_n (np := 215) B.1 dX13_buys_214 rfl rfl ?_
    refine gf_YModel_9_15 (np := 218) B.1 dX13_buys_215 rfl ?_
    refine g_bipush (np := 220) (v := 9) B.1 dX13_buys_218 (by decide) rfl ?_
    refine g_ialdL (np := 221) B.1 10 8 (by decide) rfl rfl 9 (by decide) (vpl (by decide)) dX13_buys_220 rfl ?_
    refine g_iconst (np := 222) (v := 1) B.1 dX13_buys_221 (by decide) rfl ?_
    refine g_isub (np := 223) B.1 dX13_buys_222 rfl ?_
    exact g_iret B (ty := .int) rfl rfl hc hs dX13_buys_223 ⟨_, rfl, h⟩
  · replace h := h.2 q
    refine g_iconst (np := 107) (v := 0) B.1 dX13_buys_106 (by decide) rfl ?_
    exact g_iret B (ty := .int) rfl rfl hc hs dX13_buys_107 ⟨_, rfl, h⟩
set_option maxRecDepth 20000 in
set_option maxHeartbeats 4000000 in
theorem oX13_buys_74 {K : Fr} {Q : Int32 → Mem → Prop} {E : String → Mem → Prop} (B : Bd K cX13_buys "YarnMillModel" 6 (some .int) 1 22 0 0 (RI Q) E)     {cells slots : Nat}  (hc : cells ≤ 0) (hs : slots ≤ 0) : ∀ (v1 : Int32) (v2 : Int32) (v3 : Int32) (z0 : Int32) (s0 : Mem), wX13_buys_74   Q E  v1 v2 v3 z0 s0 → Go K cells slots s0 74 [some (.ref (xad (fX K) 15 0)), some (.int v1), some (.int v2), some (.int v3), none, none] (.int z0 :: .ref (xad (fX K) 15 0) :: []) := by
  intro v1 v2 v3 z0 s0 h
  unfold wX13_buys_74 at h
  refine g_iconst (np := 75) (v := 2) B.1 dX13_buys_74 (by decide) rfl ?_
  refine gc_YModel_65 (np := 78) B   (oX13_isThrown B.1.tr   z0 2  _ _ _ h) (Nat.le_of_ble_eq_true rfl) (Nat.le_of_ble_eq_true rfl) (Nat.le_of_ble_eq_true rfl) hc hs dX13_buys_75 rfl (fun r5 s6 h => ?_)
  refine g_if_ne (np := 81) (tgt := 106) B.1 dX13_buys_78 (by decide) rfl (fun q => ?_) (fun q => ?_)
  · replace h := h.1 q
    refine g_iconst (np := 107) (v := 0) B.1 dX13_buys_106 (by decide) rfl ?_
    exact g_iret B (ty := .int) rfl rfl hc hs dX13_buys_107 ⟨_, rfl, h⟩
  · replace h := h.2 q
    refine g_aload_n (np := 82) B.1 dX13_buys_81 rfl rfl ?_
    refine g_aload_n (np := 83) B.1 dX13_buys_82 rfl rfl ?_
    refine gf_YModel_9_15 (np := 86) B.1 dX13_buys_83 rfl ?_
    refine g_iconst (np := 87) (v := 0) B.1 dX13_buys_86 (by decide) rfl ?_
    refine g_ialdL (np := 88) B.1 10 8 (by decide) rfl rfl 0 (by decide) (vpl (by decide)) dX13_buys_87 rfl ?_
    refine g_iload_n (np := 89) B.1 dX13_buys_88 rfl rfl ?_
    refine g_iload_n (np := 90) B.1 dX13_buys_89 rfl rfl ?_
    refine g_imul (np := 91) B.1 dX13_buys_90 rfl ?_
    refine g_icmp_ge (np := 94) (tgt := 98) B.1 dX13_buys_91 (by decide) rfl (fun q => ?_) (fun q => ?_)
    · replace h := h.1 q
      refine g_iconst (np := 99) (v := 0) B.1 dX13_buys_98 (by decide) rfl ?_
      refine Go.lle [some (.ref (xad (fX K) 15 0)), some (.int v1), some (.int v2), some (.int v3), none, none] (by simp [lle]) ?_
      refine oX13_buys_99 B     hc hs v1 v2 v3 0 s6 h
    · replace h := h.2 q
      refine g_iconst (np := 95) (v := 1) B.1 dX13_buys_94 (by decide) rfl ?_
      refine g_goto (tgt := 99) B.1 dX13_buys_95 (by decide) ?_
      refine Go.lle [some (.ref (xad (fX K) 15 0)), some (.int v1), some (.int v2), some (.int v3), none, none] (by simp [lle]) ?_
      refine oX13_buys_99 B     hc hs v1 v2 v3 1 s6 h
set_option maxRecDepth 20000 in
set_option maxHeartbeats 4000000 in
theorem oX13_buys_49 {K : Fr} {Q : Int32 → Mem → Prop} {E : String → Mem → Prop} (B : Bd K cX13_buys "YarnMillModel" 6 (some .int) 1 22 0 0 (RI Q) E)     {cells slots : Nat}  (hc : cells ≤ 0) (hs : slots ≤ 0) : ∀ (v1 : Int32) (v2 : Int32) (v3 : Int32) (z0 : Int32) (s0 : Mem), wX13_buys_49   Q E  v1 v2 v3 z0 s0 → Go K cells slots s0 49 [some (.ref (xad (fX K) 15 0)), some (.int v1), some (.int v2), some (.int v3), none, none] (.int z0 :: .ref (xad (fX K) 15 0) :: []) := by
  intro v1 v2 v3 z0 s0 h
  unfold wX13_buys_49 at h
  refine g_iconst (np := 50) (v := 1) B.1 dX13_buys_49 (by decide) rfl ?_
  refine gc_YModel_65 (np := 53) B   (oX13_isThrown B.1.tr   z0 1  _ _ _ h) (Nat.le_of_ble_eq_true rfl) (Nat.le_of_ble_eq_true rfl) (Nat.le_of_ble_eq_true rfl) hc hs dX13_buys_50 rfl (fun r3 s4 h => ?_)
  refine g_if_ne (np := 56) (tgt := 106) B.1 dX13_buys_53 (by decide) rfl (fun q => ?_) (fun q => ?_)
  · replace h := h.1 q
    refine g_iconst (np := 107) (v := 0) B.1 dX13_buys_106 (by decide) rfl ?_
    exact g_iret B (ty := .int) rfl rfl hc hs dX13_buys_107 ⟨_, rfl, h⟩
  · replace h := h.2 q
    refine g_aload_n (np := 57) B.1 dX13_buys_56 rfl rfl ?_
    refine g_aload_n (np := 58) B.1 dX13_buys_57 rfl rfl ?_
    refine gf_YModel_9_15 (np := 61) B.1 dX13_buys_58 rfl ?_
    refine g_bipush (np := 63) (v := 11) B.1 dX13_buys_61 (by decide) rfl ?_
    refine g_ialdL (np := 64) B.1 10 8 (by decide) rfl rfl 11 (by decide) (vpl (by decide)) dX13_buys_63 rfl ?_
    refine g_bipush (np := 66) (v := 10) B.1 dX13_buys_64 (by decide) rfl ?_
    refine g_icmp_ne (np := 69) (tgt := 73) B.1 dX13_buys_66 (by decide) rfl (fun q => ?_) (fun q => ?_)
    · replace h := h.1 q
      refine g_iconst (np := 74) (v := 0) B.1 dX13_buys_73 (by decide) rfl ?_
      refine Go.lle [some (.ref (xad (fX K) 15 0)), some (.int v1), some (.int v2), some (.int v3), none, none] (by simp [lle]) ?_
      refine oX13_buys_74 B     hc hs v1 v2 v3 0 s4 h
    · replace h := h.2 q
      refine g_iconst (np := 70) (v := 1) B.1 dX13_buys_69 (by decide) rfl ?_
      refine g_goto (tgt := 74) B.1 dX13_buys_70 (by decide) ?_
      refine Go.lle [some (.ref (xad (fX K) 15 0)), some (.int v1), some (.int v2), some (.int v3), none, none] (by simp [lle]) ?_
      refine oX13_buys_74 B     hc hs v1 v2 v3 1 s4 h
set_option maxRecDepth 20000 in
set_option maxHeartbeats 4000000 in
theorem oX13_buys_36 {K : Fr} {Q : Int32 → Mem → Prop} {E : String → Mem → Prop} (B : Bd K cX13_buys "YarnMillModel" 6 (some .int) 1 22 0 0 (RI Q) E)     {cells slots : Nat}  (hc : cells ≤ 0) (hs : slots ≤ 0) : ∀ (v1 : Int32) (v2 : Int32) (v3 : Int32) (z0 : Int32) (s0 : Mem), wX13_buys_36   Q E  v1 v2 v3 z0 s0 → Go K cells slots s0 36 [some (.ref (xad (fX K) 15 0)), some (.int v1), some (.int v2), some (.int v3), none, none] (.int z0 :: []) := by
  intro v1 v2 v3 z0 s0 h
  unfold wX13_buys_36 at h
  refine g_istore (np := 38) (lv' := [some (.ref (xad (fX K) 15 0)), some (.int v1), some (.int v2), some (.int v3), some (.int z0), none]) B.1 dX13_buys_36 (by decide) rfl rfl rfl ?_
  refine g_aload_n (np := 39) B.1 dX13_buys_38 rfl rfl ?_
  refine g_iload (np := 41) B.1 dX13_buys_39 rfl rfl ?_
  refine g_if_ne (np := 44) (tgt := 48) B.1 dX13_buys_41 (by decide) rfl (fun q => ?_) (fun q => ?_)
  · replace h := h.1 q
    refine g_iconst (np := 49) (v := 0) B.1 dX13_buys_48 (by decide) rfl ?_
    refine Go.lle [some (.ref (xad (fX K) 15 0)), some (.int v1), some (.int v2), some (.int v3), none, none] (by simp [lle]) ?_
    refine oX13_buys_49 B     hc hs v1 v2 v3 0 s0 h
  · replace h := h.2 q
    refine g_iconst (np := 45) (v := 1) B.1 dX13_buys_44 (by decide) rfl ?_
    refine g_goto (tgt := 49) B.1 dX13_buys_45 (by decide) ?_
    refine Go.lle [some (.ref (xad (fX K) 15 0)), some (.int v1), some (.int v2), some (.int v3), none, none] (by simp [lle]) ?_
    refine oX13_buys_49 B     hc hs v1 v2 v3 1 s0 h
set_option maxRecDepth 20000 in
set_option maxHeartbeats 4000000 in
theorem oX13_buys_35 {K : Fr} {Q : Int32 → Mem → Prop} {E : String → Mem → Prop} (B : Bd K cX13_buys "YarnMillModel" 6 (some .int) 1 22 0 0 (RI Q) E)     {cells slots : Nat}  (hc : cells ≤ 0) (hs : slots ≤ 0) : ∀ (v1 : Int32) (v2 : Int32) (v3 : Int32) (s0 : Mem), wX13_buys_35   Q E  v1 v2 v3 s0 → Go K cells slots s0 35 [some (.ref (xad (fX K) 15 0)), some (.int v1), some (.int v2), some (.int v3), none, none] ([]) := by
  intro v1 v2 v3 s0 h
  unfold wX13_buys_35 at h
  refine g_iconst (np := 36) (v := 0) B.1 dX13_buys_35 (by decide) rfl ?_
  refine Go.lle [some (.ref (xad (fX K) 15 0)), some (.int v1), some (.int v2), some (.int v3), none, none] (by simp [lle]) ?_
  refine oX13_buys_36 B     hc hs v1 v2 v3 0 s0 h
set_option maxRecDepth 20000 in
set_option maxHeartbeats 4000000 in
theorem oX13_buys {l : Launch} {x : Ctx} (hl : l.stackTraces = false)   (a1 : Int32) (a2 : Int32) (a3 : Int32)  (s0 : Mem) (Q : Int32 → Mem → Prop) (E : String → Mem → Prop) (h : wX13_buys  a1 a2 a3 s0 Q E) : MetG l x yX13_buys cX13_buys 6 (some .int) 1 22 0 0 [.ref (xad x 15 0), .int a1, .int a2, .int a3] s0 (RI Q) E := by
  refine MetG.of hl (by decide) (Nat.le_of_ble_eq_true rfl) [some (.ref (xad x 15 0)), some (.int a1), some (.int a2), some (.int a3), none, none] rfl (fun K B hx _ => ?_)
  subst hx
  unfold wX13_buys at h
  refine g_iload_n (np := 1) B.1 dX13_buys_0 rfl rfl ?_
  refine g_iconst (np := 2) (v := 1) B.1 dX13_buys_1 (by decide) rfl ?_
  refine g_bipush (np := 4) (v := 50) B.1 dX13_buys_2 (by decide) rfl ?_
  refine gc_YModel_61 (np := 7) B   (oX13_isIn B.1.tr   a1 1 50  _ _ _ h) (Nat.le_of_ble_eq_true rfl) (Nat.le_of_ble_eq_true rfl) (Nat.le_of_ble_eq_true rfl) (Nat.le_of_ble_eq_true rfl) (Nat.le_of_ble_eq_true rfl) dX13_buys_4 rfl (fun r1 s2 h => ?_)
  refine g_if_eq (np := 10) (tgt := 35) B.1 dX13_buys_7 (by decide) rfl (fun q => ?_) (fun q => ?_)
  · replace h := h.1 q
    refine Go.lle [some (.ref (xad (fX K) 15 0)), some (.int a1), some (.int a2), some (.int a3), none, none] (by simp [lle]) ?_
    refine oX13_buys_35 B     (Nat.le_of_ble_eq_true rfl) (Nat.le_of_ble_eq_true rfl) a1 a2 a3  s2 h
  · replace h := h.2 q
    refine g_iload_n (np := 11) B.1 dX13_buys_10 rfl rfl ?_
    refine g_bipush (np := 13) (v := 10) B.1 dX13_buys_11 (by decide) rfl ?_
    refine g_bipush (np := 15) (v := 60) B.1 dX13_buys_13 (by decide) rfl ?_
    refine gc_YModel_61 (np := 18) B   (oX13_isIn B.1.tr   a2 10 60  _ _ _ h) (Nat.le_of_ble_eq_true rfl) (Nat.le_of_ble_eq_true rfl) (Nat.le_of_ble_eq_true rfl) (Nat.le_of_ble_eq_true rfl) (Nat.le_of_ble_eq_true rfl) dX13_buys_15 rfl (fun r18 s19 h => ?_)
    refine g_if_eq (np := 21) (tgt := 35) B.1 dX13_buys_18 (by decide) rfl (fun q => ?_) (fun q => ?_)
    · replace h := h.1 q
      refine Go.lle [some (.ref (xad (fX K) 15 0)), some (.int a1), some (.int a2), some (.int a3), none, none] (by simp [lle]) ?_
      refine oX13_buys_35 B     (Nat.le_of_ble_eq_true rfl) (Nat.le_of_ble_eq_true rfl) a1 a2 a3  s19 h
    · replace h := h.2 q
      refine g_iload_n (np := 22) B.1 dX13_buys_21 rfl rfl ?_
      refine g_iconst (np := 23) (v := 1) B.1 dX13_buys_22 (by decide) rfl ?_
      refine g_bipush (np := 25) (v := 20) B.1 dX13_buys_23 (by decide) rfl ?_
      refine gc_YModel_61 (np := 28) B   (oX13_isIn B.1.tr   a3 1 20  _ _ _ h) (Nat.le_of_ble_eq_true rfl) (Nat.le_of_ble_eq_true rfl) (Nat.le_of_ble_eq_true rfl) (Nat.le_of_ble_eq_true rfl) (Nat.le_of_ble_eq_true rfl) dX13_buys_25 rfl (fun r20 s21 h => ?_)
      refine g_if_eq (np := 31) (tgt := 35) B.1 dX13_buys_28 (by decide) rfl (fun q => ?_) (fun q => ?_)
      · replace h := h.1 q
        refine Go.lle [some (.ref (xad (fX K) 15 0)), some (.int a1), some (.int a2), some (.int a3), none, none] (by simp [lle]) ?_
        refine oX13_buys_35 B     (Nat.le_of_ble_eq_true rfl) (Nat.le_of_ble_eq_true rfl) a1 a2 a3  s21 h
      · replace h := h.2 q
        refine g_iconst (np := 32) (v := 1) B.1 dX13_buys_31 (by decide) rfl ?_
        refine g_goto (tgt := 36) B.1 dX13_buys_32 (by decide) ?_
        refine Go.lle [some (.ref (xad (fX K) 15 0)), some (.int a1), some (.int a2), some (.int a3), none, none] (by simp [lle]) ?_
        refine oX13_buys_36 B     (Nat.le_of_ble_eq_true rfl) (Nat.le_of_ble_eq_true rfl) a1 a2 a3 1 s21 h
def wX13_buyBale  (a1 : Int32) (a2 : Int32) (a3 : Int32) (s0 : Mem) (Q : Int32 → Mem → Prop) (E : String → Mem → Prop) : Prop := wX13_keeps   s0 (fun (s2 : Mem) => wX13_buys  a1 a2 a3 s2 (fun (r3 : Int32) (s4 : Mem) => wX13_ends  r3 s4 (fun (r5 : Int32) (s6 : Mem) => Q r5 s6) E) E) E
set_option maxRecDepth 20000 in
set_option maxHeartbeats 4000000 in
theorem oX13_buyBale {l : Launch} {x : Ctx} (hl : l.stackTraces = false)   (a1 : Int32) (a2 : Int32) (a3 : Int32)  (s0 : Mem) (Q : Int32 → Mem → Prop) (E : String → Mem → Prop) (h : wX13_buyBale  a1 a2 a3 s0 Q E) : MetG l x yX13_buyBale cX13_buyBale 4 (some .int) 2 47 0 0 [.ref (xad x 15 0), .int a1, .int a2, .int a3] s0 (RI Q) E := by
  refine MetG.of hl (by decide) (Nat.le_of_ble_eq_true rfl) [some (.ref (xad x 15 0)), some (.int a1), some (.int a2), some (.int a3)] rfl (fun K B hx _ => ?_)
  subst hx
  unfold wX13_buyBale at h
  refine g_aload_n (np := 1) B.1 dX13_buyBale_0 rfl rfl ?_
  refine gc_YModel_69 (np := 4) B   (oX13_keeps B.1.tr     _ _ _ h) (Nat.le_of_ble_eq_true rfl) (Nat.le_of_ble_eq_true rfl) (Nat.le_of_ble_eq_true rfl) (Nat.le_of_ble_eq_true rfl) (Nat.le_of_ble_eq_true rfl) dX13_buyBale_1 rfl (fun s2 h => ?_)
  refine g_aload_n (np := 5) B.1 dX13_buyBale_4 rfl rfl ?_
  refine g_aload_n (np := 6) B.1 dX13_buyBale_5 rfl rfl ?_
  refine g_iload_n (np := 7) B.1 dX13_buyBale_6 rfl rfl ?_
  refine g_iload_n (np := 8) B.1 dX13_buyBale_7 rfl rfl ?_
  refine g_iload_n (np := 9) B.1 dX13_buyBale_8 rfl rfl ?_
  refine gc_YModel_72 (np := 12) B   (oX13_buys B.1.tr   a1 a2 a3  _ _ _ h) (Nat.le_of_ble_eq_true rfl) (Nat.le_of_ble_eq_true rfl) (Nat.le_of_ble_eq_true rfl) (Nat.le_of_ble_eq_true rfl) (Nat.le_of_ble_eq_true rfl) dX13_buyBale_9 rfl (fun r3 s4 h => ?_)
  refine gc_YModel_76 (np := 15) B   (oX13_ends B.1.tr   r3  _ _ _ h) (Nat.le_of_ble_eq_true rfl) (Nat.le_of_ble_eq_true rfl) (Nat.le_of_ble_eq_true rfl) (Nat.le_of_ble_eq_true rfl) (Nat.le_of_ble_eq_true rfl) dX13_buyBale_12 rfl (fun r5 s6 h => ?_)
  exact g_iret B (ty := .int) rfl rfl (Nat.le_of_ble_eq_true rfl) (Nat.le_of_ble_eq_true rfl) dX13_buyBale_15 ⟨_, rfl, h⟩
def wX13_isBlendAsked  (a1 : Int32) (a2 : Int32) (s0 : Mem) (Q : Int32 → Mem → Prop) (E : String → Mem → Prop) : Prop := wX13_isIn  a1 1 500 s0 (fun (r1 : Int32) (s2 : Mem) => ((r1 = 0 → Q 0 s2) ∧ (¬ r1 = 0 → wX13_isIn  a2 10 60 s2 (fun (r3 : Int32) (s4 : Mem) => ((r3 = 0 → Q 0 s4) ∧ (¬ r3 = 0 → Q 1 s4))) E))) E
set_option maxRecDepth 20000 in
set_option maxHeartbeats 4000000 in
theorem oX13_isBlendAsked {l : Launch} {x : Ctx} (hl : l.stackTraces = false)   (a1 : Int32) (a2 : Int32)  (s0 : Mem) (Q : Int32 → Mem → Prop) (E : String → Mem → Prop) (h : wX13_isBlendAsked  a1 a2 s0 Q E) : MetG l x yX13_isBlendAsked cX13_isBlendAsked 2 (some .boolean) 1 22 0 0 [.int a1, .int a2] s0 (RI Q) E := by
  refine MetG.of hl (by decide) (Nat.le_of_ble_eq_true rfl) [some (.int a1), some (.int a2)] rfl (fun K B hx _ => ?_)
  subst hx
  unfold wX13_isBlendAsked at h
  refine g_iload_n (np := 1) B.1 dX13_isBlendAsked_0 rfl rfl ?_
  refine g_iconst (np := 2) (v := 1) B.1 dX13_isBlendAsked_1 (by decide) rfl ?_
  refine g_sipush (np := 5) (v := 500) B.1 dX13_isBlendAsked_2 (by decide) rfl ?_
  refine gc_YModel_61 (np := 8) B   (oX13_isIn B.1.tr   a1 1 500  _ _ _ h) (Nat.le_of_ble_eq_true rfl) (Nat.le_of_ble_eq_true rfl) (Nat.le_of_ble_eq_true rfl) (Nat.le_of_ble_eq_true rfl) (Nat.le_of_ble_eq_true rfl) dX13_isBlendAsked_5 rfl (fun r1 s2 h => ?_)
  refine g_if_eq (np := 11) (tgt := 26) B.1 dX13_isBlendAsked_8 (by decide) rfl (fun q => ?_) (fun q => ?_)
  · replace h := h.1 q
    refine g_iconst (np := 27) (v := 0) B.1 dX13_isBlendAsked_26 (by decide) rfl ?_
    exact g_iret B (ty := .boolean) rfl (by decide) (Nat.le_of_ble_eq_true rfl) (Nat.le_of_ble_eq_true rfl) dX13_isBlendAsked_27 ⟨_, rfl, h⟩
  · replace h := h.2 q
    refine g_iload_n (np := 12) B.1 dX13_isBlendAsked_11 rfl rfl ?_
    refine g_bipush (np := 14) (v := 10) B.1 dX13_isBlendAsked_12 (by decide) rfl ?_
    refine g_bipush (np := 16) (v := 60) B.1 dX13_isBlendAsked_14 (by decide) rfl ?_
    refine gc_YModel_61 (np := 19) B   (oX13_isIn B.1.tr   a2 10 60  _ _ _ h) (Nat.le_of_ble_eq_true rfl) (Nat.le_of_ble_eq_true rfl) (Nat.le_of_ble_eq_true rfl) (Nat.le_of_ble_eq_true rfl) (Nat.le_of_ble_eq_true rfl) dX13_isBlendAsked_16 rfl (fun r3 s4 h => ?_)
    refine g_if_eq (np := 22) (tgt := 26) B.1 dX13_isBlendAsked_19 (by decide) rfl (fun q => ?_) (fun q => ?_)
    · replace h := h.1 q
      refine g_iconst (np := 27) (v := 0) B.1 dX13_isBlendAsked_26 (by decide) rfl ?_
      exact g_iret B (ty := .boolean) rfl (by decide) (Nat.le_of_ble_eq_true rfl) (Nat.le_of_ble_eq_true rfl) dX13_isBlendAsked_27 ⟨_, rfl, h⟩
    · replace h := h.2 q
      refine g_iconst (np := 23) (v := 1) B.1 dX13_isBlendAsked_22 (by decide) rfl ?_
      refine g_goto (tgt := 27) B.1 dX13_isBlendAsked_23 (by decide) ?_
      exact g_iret B (ty := .boolean) rfl (by decide) (Nat.le_of_ble_eq_true rfl) (Nat.le_of_ble_eq_true rfl) dX13_isBlendAsked_27 ⟨_, rfl, h⟩
def wX13_sum_5   (Q : Int32 → Mem → Prop) (E : String → Mem → Prop)  (X74 : Int32 → Mem → Prop) : Nat → Int32 → Int32 → Int32 → Int32 → Mem → Prop
  | 0, _, _, _, _, _ => False
  | n5 + 1, v1, v2, v3, v4, s0 => ((rd s0 10 8 11 ≤ v4 → X74 v3 s0) ∧ (¬ rd s0 10 8 11 ≤ v4 → ((¬ (v1 >>> (v4 &&& 31)) &&& 1 = 1 → ∀ v4_1 : Int32, v4_1 = (v4 + 1) → wX13_sum_5   Q E X74 n5 v1 v2 v3 v4_1 s0) ∧ ((v1 >>> (v4 &&& 31)) &&& 1 = 1 → wX13_ofBale  v4 1 s0 (fun (r2 : Int32) (s3 : Mem) => ((¬ v2 = 0 → ((¬ v2 = 1 → wX13_ofBale  v4 2 s3 (fun (r4 : Int32) (s5 : Mem) => ∀ v3_6 : Int32, v3_6 = (v3 + (r2 * r4)) → ∀ v4_7 : Int32, v4_7 = (v4 + 1) → wX13_sum_5   Q E X74 n5 v1 v2 v3_6 v4_7 s5) E) ∧ (v2 = 1 → wX13_ofBale  v4 3 s3 (fun (r8 : Int32) (s9 : Mem) => ∀ v3_10 : Int32, v3_10 = (v3 + (r2 * r8)) → ∀ v4_11 : Int32, v4_11 = (v4 + 1) → wX13_sum_5   Q E X74 n5 v1 v2 v3_10 v4_11 s9) E))) ∧ (v2 = 0 → ∀ v3_12 : Int32, v3_12 = (v3 + (r2 * 1)) → ∀ v4_13 : Int32, v4_13 = (v4 + 1) → wX13_sum_5   Q E X74 n5 v1 v2 v3_12 v4_13 s3))) E))))
def wX13_sum  (a1 : Int32) (a2 : Int32) (s0 : Mem) (Q : Int32 → Mem → Prop) (E : String → Mem → Prop) : Prop := ∃ m16 : Nat, wX13_sum_5   Q E (fun (x3_14 : Int32) (s15 : Mem) => Q x3_14 s15) m16 a1 a2 0 0  s0
set_option maxRecDepth 20000 in
set_option maxHeartbeats 4000000 in
theorem oX13_sum_5 {K : Fr} {Q : Int32 → Mem → Prop} {E : String → Mem → Prop} (B : Bd K cX13_sum "YarnMillModel" 5 (some .int) 1 22 0 0 (RI Q) E)    {X74 : Int32 → Mem → Prop} {cells slots : Nat} (hX74 : ∀ (y3 : Int32) (τ : Mem), X74 y3 τ → Go K cells slots τ 74 [none, none, none, some (.int y3), none] ([])) (hc : cells ≤ 0) (hs : slots ≤ 0) : ∀ (n : Nat) (v1 : Int32) (v2 : Int32) (v3 : Int32) (v4 : Int32) (s0 : Mem), wX13_sum_5   Q E X74 n v1 v2 v3 v4 s0 → Go K cells slots s0 5 [some (.ref (xad (fX K) 15 0)), some (.int v1), some (.int v2), some (.int v3), some (.int v4)] ([]) := by
  intro n
  induction n with
  | zero => intro v1 v2 v3 v4 s0 h; exact absurd h (by simp [wX13_sum_5])
  | succ n ih =>
    intro v1 v2 v3 v4 s0 h
    simp only [wX13_sum_5] at h
    refine g_iload (np := 7) B.1 dX13_sum_5 rfl rfl ?_
    refine g_aload_n (np := 8) B.1 dX13_sum_7 rfl rfl ?_
    refine gf_YModel_9_15 (np := 11) B.1 dX13_sum_8 rfl ?_
    refine g_bipush (np := 13) (v := 11) B.1 dX13_sum_11 (by decide) rfl ?_
    refine g_ialdL (np := 14) B.1 10 8 (by decide) rfl rfl 11 (by decide) (vpl (by decide)) dX13_sum_13 rfl ?_
    refine g_icmp_ge (np := 17) (tgt := 74) B.1 dX13_sum_14 (by decide) rfl (fun q => ?_) (fun q => ?_)
    · replace h := h.1 q
      refine Go.lle [none, none, none, some (.int v3), none] (by simp [lle]) ?_
      exact hX74 v3 s0 h
    · replace h := h.2 q
      refine g_iload_n (np := 18) B.1 dX13_sum_17 rfl rfl ?_
      refine g_iload (np := 20) B.1 dX13_sum_18 rfl rfl ?_
      refine g_ishr (np := 21) B.1 dX13_sum_20 rfl ?_
      refine g_iconst (np := 22) (v := 1) B.1 dX13_sum_21 (by decide) rfl ?_
      refine g_iand (np := 23) B.1 dX13_sum_22 rfl ?_
      refine g_iconst (np := 24) (v := 1) B.1 dX13_sum_23 (by decide) rfl ?_
      refine g_icmp_ne (np := 27) (tgt := 68) B.1 dX13_sum_24 (by decide) rfl (fun q => ?_) (fun q => ?_)
      · replace h := h.1 q
        obtain ⟨v4_1, ev4_1⟩ : ∃ y : Int32, y = v4 + 1 := ⟨_, rfl⟩
        replace h := h v4_1 ev4_1
        refine g_iinc (np := 71) (v := v4_1) (lv' := [some (.ref (xad (fX K) 15 0)), some (.int v1), some (.int v2), some (.int v3), some (.int v4_1)]) B.1 dX13_sum_68 rfl (by rw [ev4_1]; rfl) (by decide) rfl rfl rfl ?_
        refine g_goto (tgt := 5) B.1 dX13_sum_71 (by decide) ?_
        refine Go.lle [some (.ref (xad (fX K) 15 0)), some (.int v1), some (.int v2), some (.int v3), some (.int v4_1)] (by simp [lle]) ?_
        exact ih v1 v2 v3 v4_1 s0 h
      · replace h := h.2 q
        refine g_iload_n (np := 28) B.1 dX13_sum_27 rfl rfl ?_
        refine g_aload_n (np := 29) B.1 dX13_sum_28 rfl rfl ?_
        refine g_iload (np := 31) B.1 dX13_sum_29 rfl rfl ?_
        refine g_iconst (np := 32) (v := 1) B.1 dX13_sum_31 (by decide) rfl ?_
        refine gc_YModel_54 (np := 35) B   (oX13_ofBale B.1.tr   v4 1  _ _ _ h) (Nat.le_of_ble_eq_true rfl) (Nat.le_of_ble_eq_true rfl) (Nat.le_of_ble_eq_true rfl) hc hs dX13_sum_32 rfl (fun r2 s3 h => ?_)
        refine g_iload_n (np := 36) B.1 dX13_sum_35 rfl rfl ?_
        refine g_if_ne (np := 39) (tgt := 43) B.1 dX13_sum_36 (by decide) rfl (fun q => ?_) (fun q => ?_)
        · replace h := h.1 q
          refine g_iload_n (np := 44) B.1 dX13_sum_43 rfl rfl ?_
          refine g_iconst (np := 45) (v := 1) B.1 dX13_sum_44 (by decide) rfl ?_
          refine g_icmp_ne (np := 48) (tgt := 58) B.1 dX13_sum_45 (by decide) rfl (fun q => ?_) (fun q => ?_)
          · replace h := h.1 q
            refine g_aload_n (np := 59) B.1 dX13_sum_58 rfl rfl ?_
            refine g_iload (np := 61) B.1 dX13_sum_59 rfl rfl ?_
            refine g_iconst (np := 62) (v := 2) B.1 dX13_sum_61 (by decide) rfl ?_
            refine gc_YModel_54 (np := 65) B   (oX13_ofBale B.1.tr   v4 2  _ _ _ h) (Nat.le_of_ble_eq_true rfl) (Nat.le_of_ble_eq_true rfl) (Nat.le_of_ble_eq_true rfl) hc hs dX13_sum_62 rfl (fun r4 s5 h => ?_)
            refine g_imul (np := 66) B.1 dX13_sum_65 rfl ?_
            refine g_iadd (np := 67) B.1 dX13_sum_66 rfl ?_
            refine g_topi (fun v3_6 ev3_6 => ?_)
            replace h := h v3_6 ev3_6
            refine g_istore_n (np := 68) (lv' := [some (.ref (xad (fX K) 15 0)), some (.int v1), some (.int v2), some (.int v3_6), some (.int v4)]) B.1 dX13_sum_67 (by decide) rfl rfl rfl ?_
            obtain ⟨v4_7, ev4_7⟩ : ∃ y : Int32, y = v4 + 1 := ⟨_, rfl⟩
            replace h := h v4_7 ev4_7
            refine g_iinc (np := 71) (v := v4_7) (lv' := [some (.ref (xad (fX K) 15 0)), some (.int v1), some (.int v2), some (.int v3_6), some (.int v4_7)]) B.1 dX13_sum_68 rfl (by rw [ev4_7]; rfl) (by decide) rfl rfl rfl ?_
            refine g_goto (tgt := 5) B.1 dX13_sum_71 (by decide) ?_
            refine Go.lle [some (.ref (xad (fX K) 15 0)), some (.int v1), some (.int v2), some (.int v3_6), some (.int v4_7)] (by simp [lle]) ?_
            exact ih v1 v2 v3_6 v4_7 s5 h
          · replace h := h.2 q
            refine g_aload_n (np := 49) B.1 dX13_sum_48 rfl rfl ?_
            refine g_iload (np := 51) B.1 dX13_sum_49 rfl rfl ?_
            refine g_iconst (np := 52) (v := 3) B.1 dX13_sum_51 (by decide) rfl ?_
            refine gc_YModel_54 (np := 55) B   (oX13_ofBale B.1.tr   v4 3  _ _ _ h) (Nat.le_of_ble_eq_true rfl) (Nat.le_of_ble_eq_true rfl) (Nat.le_of_ble_eq_true rfl) hc hs dX13_sum_52 rfl (fun r8 s9 h => ?_)
            refine g_goto (tgt := 65) B.1 dX13_sum_55 (by decide) ?_
            refine g_imul (np := 66) B.1 dX13_sum_65 rfl ?_
            refine g_iadd (np := 67) B.1 dX13_sum_66 rfl ?_
            refine g_topi (fun v3_10 ev3_10 => ?_)
            replace h := h v3_10 ev3_10
            refine g_istore_n (np := 68) (lv' := [some (.ref (xad (fX K) 15 0)), some (.int v1), some (.int v2), some (.int v3_10), some (.int v4)]) B.1 dX13_sum_67 (by decide) rfl rfl rfl ?_
            obtain ⟨v4_11, ev4_11⟩ : ∃ y : Int32, y = v4 + 1 := ⟨_, rfl⟩
            replace h := h v4_11 ev4_11
            refine g_iinc (np := 71) (v := v4_11) (lv' := [some (.ref (xad (fX K) 15 0)), some (.int v1), some (.int v2), some (.int v3_10), some (.int v4_11)]) B.1 dX13_sum_68 rfl (by rw [ev4_11]; rfl) (by decide) rfl rfl rfl ?_
            refine g_goto (tgt := 5) B.1 dX13_sum_71 (by decide) ?_
            refine Go.lle [some (.ref (xad (fX K) 15 0)), some (.int v1), some (.int v2), some (.int v3_10), some (.int v4_11)] (by simp [lle]) ?_
            exact ih v1 v2 v3_10 v4_11 s9 h
        · replace h := h.2 q
          refine g_iconst (np := 40) (v := 1) B.1 dX13_sum_39 (by decide) rfl ?_
          refine g_goto (tgt := 65) B.1 dX13_sum_40 (by decide) ?_
          refine g_imul (np := 66) B.1 dX13_sum_65 rfl ?_
          refine g_iadd (np := 67) B.1 dX13_sum_66 rfl ?_
          refine g_topi (fun v3_12 ev3_12 => ?_)
          replace h := h v3_12 ev3_12
          refine g_istore_n (np := 68) (lv' := [some (.ref (xad (fX K) 15 0)), some (.int v1), some (.int v2), some (.int v3_12), some (.int v4)]) B.1 dX13_sum_67 (by decide) rfl rfl rfl ?_
          obtain ⟨v4_13, ev4_13⟩ : ∃ y : Int32, y = v4 + 1 := ⟨_, rfl⟩
          replace h := h v4_13 ev4_13
          refine g_iinc (np := 71) (v := v4_13) (lv' := [some (.ref (xad (fX K) 15 0)), some (.int v1), some (.int v2), some (.int v3_12), some (.int v4_13)]) B.1 dX13_sum_68 rfl (by rw [ev4_13]; rfl) (by decide) rfl rfl rfl ?_
          refine g_goto (tgt := 5) B.1 dX13_sum_71 (by decide) ?_
          refine Go.lle [some (.ref (xad (fX K) 15 0)), some (.int v1), some (.int v2), some (.int v3_12), some (.int v4_13)] (by simp [lle]) ?_
          exact ih v1 v2 v3_12 v4_13 s3 h
set_option maxRecDepth 20000 in
set_option maxHeartbeats 4000000 in
theorem oX13_sum {l : Launch} {x : Ctx} (hl : l.stackTraces = false)   (a1 : Int32) (a2 : Int32)  (s0 : Mem) (Q : Int32 → Mem → Prop) (E : String → Mem → Prop) (h : wX13_sum  a1 a2 s0 Q E) : MetG l x yX13_sum cX13_sum 5 (some .int) 1 22 0 0 [.ref (xad x 15 0), .int a1, .int a2] s0 (RI Q) E := by
  refine MetG.of hl (by decide) (Nat.le_of_ble_eq_true rfl) [some (.ref (xad x 15 0)), some (.int a1), some (.int a2), none, none] rfl (fun K B hx _ => ?_)
  subst hx
  unfold wX13_sum at h
  refine g_iconst (np := 1) (v := 0) B.1 dX13_sum_0 (by decide) rfl ?_
  refine g_istore_n (np := 2) (lv' := [some (.ref (xad (fX K) 15 0)), some (.int a1), some (.int a2), some (.int 0), none]) B.1 dX13_sum_1 (by decide) rfl rfl rfl ?_
  refine g_iconst (np := 3) (v := 0) B.1 dX13_sum_2 (by decide) rfl ?_
  refine g_istore (np := 5) (lv' := [some (.ref (xad (fX K) 15 0)), some (.int a1), some (.int a2), some (.int 0), some (.int 0)]) B.1 dX13_sum_3 (by decide) rfl rfl rfl ?_
  obtain ⟨m16, h⟩ := h
  refine Go.lle [some (.ref (xad (fX K) 15 0)), some (.int a1), some (.int a2), some (.int 0), some (.int 0)] (by simp [lle]) ?_
  refine oX13_sum_5 B    (fun x3_14 s15 h => ?_) (Nat.le_of_ble_eq_true rfl) (Nat.le_of_ble_eq_true rfl) m16 a1 a2 0 0  s0 h
  refine g_iload_n (np := 75) B.1 dX13_sum_74 rfl rfl ?_
  exact g_iret B (ty := .int) rfl rfl (Nat.le_of_ble_eq_true rfl) (Nat.le_of_ble_eq_true rfl) dX13_sum_75 ⟨_, rfl, h⟩
def wX13_isBetter  (a1 : Int32) (a2 : Int32) (s0 : Mem) (Q : Int32 → Mem → Prop) (E : String → Mem → Prop) : Prop := ((a2 = 0 → ((a2 = 0 → Q 1 s0) ∧ (¬ a2 = 0 → wX13_sum  a1 1 s0 (fun (r1 : Int32) (s2 : Mem) => wX13_sum  a2 1 s2 (fun (r3 : Int32) (s4 : Mem) => ((r3 ≤ r1 → Q 0 s4) ∧ (¬ r3 ≤ r1 → Q 1 s4))) E) E))) ∧ (¬ a2 = 0 → wX13_sum  a1 1 s0 (fun (r5 : Int32) (s6 : Mem) => wX13_sum  a2 1 s6 (fun (r7 : Int32) (s8 : Mem) => ((r5 = r7 → wX13_sum  a1 0 s8 (fun (r9 : Int32) (s10 : Mem) => wX13_sum  a2 0 s10 (fun (r11 : Int32) (s12 : Mem) => ((r9 = r11 → ∀ v3_13 : Int32, v3_13 = (a1 ^^^ a2) → (((a1 &&& v3_13) &&& (-v3_13) = 0 → Q 0 s12) ∧ (¬ (a1 &&& v3_13) &&& (-v3_13) = 0 → Q 1 s12))) ∧ (¬ r9 = r11 → wX13_sum  a1 0 s12 (fun (r14 : Int32) (s15 : Mem) => wX13_sum  a2 0 s15 (fun (r16 : Int32) (s17 : Mem) => ((r16 ≤ r14 → Q 0 s17) ∧ (¬ r16 ≤ r14 → Q 1 s17))) E) E))) E) E) ∧ (¬ r5 = r7 → ((a2 = 0 → Q 1 s8) ∧ (¬ a2 = 0 → wX13_sum  a1 1 s8 (fun (r18 : Int32) (s19 : Mem) => wX13_sum  a2 1 s19 (fun (r20 : Int32) (s21 : Mem) => ((r20 ≤ r18 → Q 0 s21) ∧ (¬ r20 ≤ r18 → Q 1 s21))) E) E))))) E) E))
set_option maxRecDepth 20000 in
set_option maxHeartbeats 4000000 in
theorem oX13_isBetter {l : Launch} {x : Ctx} (hl : l.stackTraces = false)   (a1 : Int32) (a2 : Int32)  (s0 : Mem) (Q : Int32 → Mem → Prop) (E : String → Mem → Prop) (h : wX13_isBetter  a1 a2 s0 Q E) : MetG l x yX13_isBetter cX13_isBetter 4 (some .boolean) 2 46 0 0 [.ref (xad x 15 0), .int a1, .int a2] s0 (RI Q) E := by
  refine MetG.of hl (by decide) (Nat.le_of_ble_eq_true rfl) [some (.ref (xad x 15 0)), some (.int a1), some (.int a2), none] rfl (fun K B hx _ => ?_)
  subst hx
  unfold wX13_isBetter at h
  refine g_iload_n (np := 1) B.1 dX13_isBetter_0 rfl rfl ?_
  refine g_if_eq (np := 4) (tgt := 19) B.1 dX13_isBetter_1 (by decide) rfl (fun q => ?_) (fun q => ?_)
  · replace h := h.1 q
    refine g_iload_n (np := 20) B.1 dX13_isBetter_19 rfl rfl ?_
    refine g_if_eq (np := 23) (tgt := 38) B.1 dX13_isBetter_20 (by decide) rfl (fun q => ?_) (fun q => ?_)
    · replace h := h.1 q
      refine g_iconst (np := 39) (v := 1) B.1 dX13_isBetter_38 (by decide) rfl ?_
      refine g_goto (tgt := 43) B.1 dX13_isBetter_39 (by decide) ?_
      exact g_iret B (ty := .boolean) rfl (by decide) (Nat.le_of_ble_eq_true rfl) (Nat.le_of_ble_eq_true rfl) dX13_isBetter_43 ⟨_, rfl, h⟩
    · replace h := h.2 q
      refine g_aload_n (np := 24) B.1 dX13_isBetter_23 rfl rfl ?_
      refine g_iload_n (np := 25) B.1 dX13_isBetter_24 rfl rfl ?_
      refine g_iconst (np := 26) (v := 1) B.1 dX13_isBetter_25 (by decide) rfl ?_
      refine gc_YModel_80 (np := 29) B   (oX13_sum B.1.tr   a1 1  _ _ _ h) (Nat.le_of_ble_eq_true rfl) (Nat.le_of_ble_eq_true rfl) (Nat.le_of_ble_eq_true rfl) (Nat.le_of_ble_eq_true rfl) (Nat.le_of_ble_eq_true rfl) dX13_isBetter_26 rfl (fun r1 s2 h => ?_)
      refine g_aload_n (np := 30) B.1 dX13_isBetter_29 rfl rfl ?_
      refine g_iload_n (np := 31) B.1 dX13_isBetter_30 rfl rfl ?_
      refine g_iconst (np := 32) (v := 1) B.1 dX13_isBetter_31 (by decide) rfl ?_
      refine gc_YModel_80 (np := 35) B   (oX13_sum B.1.tr   a2 1  _ _ _ h) (Nat.le_of_ble_eq_true rfl) (Nat.le_of_ble_eq_true rfl) (Nat.le_of_ble_eq_true rfl) (Nat.le_of_ble_eq_true rfl) (Nat.le_of_ble_eq_true rfl) dX13_isBetter_32 rfl (fun r3 s4 h => ?_)
      refine g_icmp_ge (np := 38) (tgt := 42) B.1 dX13_isBetter_35 (by decide) rfl (fun q => ?_) (fun q => ?_)
      · replace h := h.1 q
        refine g_iconst (np := 43) (v := 0) B.1 dX13_isBetter_42 (by decide) rfl ?_
        exact g_iret B (ty := .boolean) rfl (by decide) (Nat.le_of_ble_eq_true rfl) (Nat.le_of_ble_eq_true rfl) dX13_isBetter_43 ⟨_, rfl, h⟩
      · replace h := h.2 q
        refine g_iconst (np := 39) (v := 1) B.1 dX13_isBetter_38 (by decide) rfl ?_
        refine g_goto (tgt := 43) B.1 dX13_isBetter_39 (by decide) ?_
        exact g_iret B (ty := .boolean) rfl (by decide) (Nat.le_of_ble_eq_true rfl) (Nat.le_of_ble_eq_true rfl) dX13_isBetter_43 ⟨_, rfl, h⟩
  · replace h := h.2 q
    refine g_aload_n (np := 5) B.1 dX13_isBetter_4 rfl rfl ?_
    refine g_iload_n (np := 6) B.1 dX13_isBetter_5 rfl rfl ?_
    refine g_iconst (np := 7) (v := 1) B.1 dX13_isBetter_6 (by decide) rfl ?_
    refine gc_YModel_80 (np := 10) B   (oX13_sum B.1.tr   a1 1  _ _ _ h) (Nat.le_of_ble_eq_true rfl) (Nat.le_of_ble_eq_true rfl) (Nat.le_of_ble_eq_true rfl) (Nat.le_of_ble_eq_true rfl) (Nat.le_of_ble_eq_true rfl) dX13_isBetter_7 rfl (fun r5 s6 h => ?_)
    refine g_aload_n (np := 11) B.1 dX13_isBetter_10 rfl rfl ?_
    refine g_iload_n (np := 12) B.1 dX13_isBetter_11 rfl rfl ?_
    refine g_iconst (np := 13) (v := 1) B.1 dX13_isBetter_12 (by decide) rfl ?_
    refine gc_YModel_80 (np := 16) B   (oX13_sum B.1.tr   a2 1  _ _ _ h) (Nat.le_of_ble_eq_true rfl) (Nat.le_of_ble_eq_true rfl) (Nat.le_of_ble_eq_true rfl) (Nat.le_of_ble_eq_true rfl) (Nat.le_of_ble_eq_true rfl) dX13_isBetter_13 rfl (fun r7 s8 h => ?_)
    refine g_icmp_eq (np := 19) (tgt := 44) B.1 dX13_isBetter_16 (by decide) rfl (fun q => ?_) (fun q => ?_)
    · replace h := h.1 q
      refine g_aload_n (np := 45) B.1 dX13_isBetter_44 rfl rfl ?_
      refine g_iload_n (np := 46) B.1 dX13_isBetter_45 rfl rfl ?_
      refine g_iconst (np := 47) (v := 0) B.1 dX13_isBetter_46 (by decide) rfl ?_
      refine gc_YModel_80 (np := 50) B   (oX13_sum B.1.tr   a1 0  _ _ _ h) (Nat.le_of_ble_eq_true rfl) (Nat.le_of_ble_eq_true rfl) (Nat.le_of_ble_eq_true rfl) (Nat.le_of_ble_eq_true rfl) (Nat.le_of_ble_eq_true rfl) dX13_isBetter_47 rfl (fun r9 s10 h => ?_)
      refine g_aload_n (np := 51) B.1 dX13_isBetter_50 rfl rfl ?_
      refine g_iload_n (np := 52) B.1 dX13_isBetter_51 rfl rfl ?_
      refine g_iconst (np := 53) (v := 0) B.1 dX13_isBetter_52 (by decide) rfl ?_
      refine gc_YModel_80 (np := 56) B   (oX13_sum B.1.tr   a2 0  _ _ _ h) (Nat.le_of_ble_eq_true rfl) (Nat.le_of_ble_eq_true rfl) (Nat.le_of_ble_eq_true rfl) (Nat.le_of_ble_eq_true rfl) (Nat.le_of_ble_eq_true rfl) dX13_isBetter_53 rfl (fun r11 s12 h => ?_)
      refine g_icmp_eq (np := 59) (tgt := 80) B.1 dX13_isBetter_56 (by decide) rfl (fun q => ?_) (fun q => ?_)
      · replace h := h.1 q
        refine g_iload_n (np := 81) B.1 dX13_isBetter_80 rfl rfl ?_
        refine g_iload_n (np := 82) B.1 dX13_isBetter_81 rfl rfl ?_
        refine g_ixor (np := 83) B.1 dX13_isBetter_82 rfl ?_
        refine g_topi (fun v3_13 ev3_13 => ?_)
        replace h := h v3_13 ev3_13
        refine g_istore_n (np := 84) (lv' := [some (.ref (xad (fX K) 15 0)), some (.int a1), some (.int a2), some (.int v3_13)]) B.1 dX13_isBetter_83 (by decide) rfl rfl rfl ?_
        refine g_iload_n (np := 85) B.1 dX13_isBetter_84 rfl rfl ?_
        refine g_iload_n (np := 86) B.1 dX13_isBetter_85 rfl rfl ?_
        refine g_iand (np := 87) B.1 dX13_isBetter_86 rfl ?_
        refine g_iload_n (np := 88) B.1 dX13_isBetter_87 rfl rfl ?_
        refine g_ineg (np := 89) B.1 dX13_isBetter_88 rfl ?_
        refine g_iand (np := 90) B.1 dX13_isBetter_89 rfl ?_
        refine g_if_eq (np := 93) (tgt := 97) B.1 dX13_isBetter_90 (by decide) rfl (fun q => ?_) (fun q => ?_)
        · replace h := h.1 q
          refine g_iconst (np := 98) (v := 0) B.1 dX13_isBetter_97 (by decide) rfl ?_
          exact g_iret B (ty := .boolean) rfl (by decide) (Nat.le_of_ble_eq_true rfl) (Nat.le_of_ble_eq_true rfl) dX13_isBetter_98 ⟨_, rfl, h⟩
        · replace h := h.2 q
          refine g_iconst (np := 94) (v := 1) B.1 dX13_isBetter_93 (by decide) rfl ?_
          refine g_goto (tgt := 98) B.1 dX13_isBetter_94 (by decide) ?_
          exact g_iret B (ty := .boolean) rfl (by decide) (Nat.le_of_ble_eq_true rfl) (Nat.le_of_ble_eq_true rfl) dX13_isBetter_98 ⟨_, rfl, h⟩
      · replace h := h.2 q
        refine g_aload_n (np := 60) B.1 dX13_isBetter_59 rfl rfl ?_
        refine g_iload_n (np := 61) B.1 dX13_isBetter_60 rfl rfl ?_
        refine g_iconst (np := 62) (v := 0) B.1 dX13_isBetter_61 (by decide) rfl ?_
        refine gc_YModel_80 (np := 65) B   (oX13_sum B.1.tr   a1 0  _ _ _ h) (Nat.le_of_ble_eq_true rfl) (Nat.le_of_ble_eq_true rfl) (Nat.le_of_ble_eq_true rfl) (Nat.le_of_ble_eq_true rfl) (Nat.le_of_ble_eq_true rfl) dX13_isBetter_62 rfl (fun r14 s15 h => ?_)
        refine g_aload_n (np := 66) B.1 dX13_isBetter_65 rfl rfl ?_
        refine g_iload_n (np := 67) B.1 dX13_isBetter_66 rfl rfl ?_
        refine g_iconst (np := 68) (v := 0) B.1 dX13_isBetter_67 (by decide) rfl ?_
        refine gc_YModel_80 (np := 71) B   (oX13_sum B.1.tr   a2 0  _ _ _ h) (Nat.le_of_ble_eq_true rfl) (Nat.le_of_ble_eq_true rfl) (Nat.le_of_ble_eq_true rfl) (Nat.le_of_ble_eq_true rfl) (Nat.le_of_ble_eq_true rfl) dX13_isBetter_68 rfl (fun r16 s17 h => ?_)
        refine g_icmp_ge (np := 74) (tgt := 78) B.1 dX13_isBetter_71 (by decide) rfl (fun q => ?_) (fun q => ?_)
        · replace h := h.1 q
          refine g_iconst (np := 79) (v := 0) B.1 dX13_isBetter_78 (by decide) rfl ?_
          exact g_iret B (ty := .boolean) rfl (by decide) (Nat.le_of_ble_eq_true rfl) (Nat.le_of_ble_eq_true rfl) dX13_isBetter_79 ⟨_, rfl, h⟩
        · replace h := h.2 q
          refine g_iconst (np := 75) (v := 1) B.1 dX13_isBetter_74 (by decide) rfl ?_
          refine g_goto (tgt := 79) B.1 dX13_isBetter_75 (by decide) ?_
          exact g_iret B (ty := .boolean) rfl (by decide) (Nat.le_of_ble_eq_true rfl) (Nat.le_of_ble_eq_true rfl) dX13_isBetter_79 ⟨_, rfl, h⟩
    · replace h := h.2 q
      refine g_iload_n (np := 20) B.1 dX13_isBetter_19 rfl rfl ?_
      refine g_if_eq (np := 23) (tgt := 38) B.1 dX13_isBetter_20 (by decide) rfl (fun q => ?_) (fun q => ?_)
      · replace h := h.1 q
        refine g_iconst (np := 39) (v := 1) B.1 dX13_isBetter_38 (by decide) rfl ?_
        refine g_goto (tgt := 43) B.1 dX13_isBetter_39 (by decide) ?_
        exact g_iret B (ty := .boolean) rfl (by decide) (Nat.le_of_ble_eq_true rfl) (Nat.le_of_ble_eq_true rfl) dX13_isBetter_43 ⟨_, rfl, h⟩
      · replace h := h.2 q
        refine g_aload_n (np := 24) B.1 dX13_isBetter_23 rfl rfl ?_
        refine g_iload_n (np := 25) B.1 dX13_isBetter_24 rfl rfl ?_
        refine g_iconst (np := 26) (v := 1) B.1 dX13_isBetter_25 (by decide) rfl ?_
        refine gc_YModel_80 (np := 29) B   (oX13_sum B.1.tr   a1 1  _ _ _ h) (Nat.le_of_ble_eq_true rfl) (Nat.le_of_ble_eq_true rfl) (Nat.le_of_ble_eq_true rfl) (Nat.le_of_ble_eq_true rfl) (Nat.le_of_ble_eq_true rfl) dX13_isBetter_26 rfl (fun r18 s19 h => ?_)
        refine g_aload_n (np := 30) B.1 dX13_isBetter_29 rfl rfl ?_
        refine g_iload_n (np := 31) B.1 dX13_isBetter_30 rfl rfl ?_
        refine g_iconst (np := 32) (v := 1) B.1 dX13_isBetter_31 (by decide) rfl ?_
        refine gc_YModel_80 (np := 35) B   (oX13_sum B.1.tr   a2 1  _ _ _ h) (Nat.le_of_ble_eq_true rfl) (Nat.le_of_ble_eq_true rfl) (Nat.le_of_ble_eq_true rfl) (Nat.le_of_ble_eq_true rfl) (Nat.le_of_ble_eq_true rfl) dX13_isBetter_32 rfl (fun r20 s21 h => ?_)
        refine g_icmp_ge (np := 38) (tgt := 42) B.1 dX13_isBetter_35 (by decide) rfl (fun q => ?_) (fun q => ?_)
        · replace h := h.1 q
          refine g_iconst (np := 43) (v := 0) B.1 dX13_isBetter_42 (by decide) rfl ?_
          exact g_iret B (ty := .boolean) rfl (by decide) (Nat.le_of_ble_eq_true rfl) (Nat.le_of_ble_eq_true rfl) dX13_isBetter_43 ⟨_, rfl, h⟩
        · replace h := h.2 q
          refine g_iconst (np := 39) (v := 1) B.1 dX13_isBetter_38 (by decide) rfl ?_
          refine g_goto (tgt := 43) B.1 dX13_isBetter_39 (by decide) ?_
          exact g_iret B (ty := .boolean) rfl (by decide) (Nat.le_of_ble_eq_true rfl) (Nat.le_of_ble_eq_true rfl) dX13_isBetter_43 ⟨_, rfl, h⟩
def wX13_best_5   (Q : Int32 → Mem → Prop) (E : String → Mem → Prop)  (X67 : Int32 → Mem → Prop) : Nat → Int32 → Int32 → Int32 → Int32 → Mem → Prop
  | 0, _, _, _, _, _ => False
  | n5 + 1, v1, v2, v3, v4, s0 => ((1 <<< ((rd s0 10 8 11) &&& 31) ≤ v4 → X67 v3 s0) ∧ (¬ 1 <<< ((rd s0 10 8 11) &&& 31) ≤ v4 → wX13_sum  v4 0 s0 (fun (r1 : Int32) (s2 : Mem) => ((r1 < v1 → ∀ v4_3 : Int32, v4_3 = (v4 + 1) → wX13_best_5   Q E X67 n5 v1 v2 v3 v4_3 s2) ∧ (¬ r1 < v1 → wX13_sum  v4 2 s2 (fun (r4 : Int32) (s5 : Mem) => ((r4 < v2 * r1 → ∀ v4_6 : Int32, v4_6 = (v4 + 1) → wX13_best_5   Q E X67 n5 v1 v2 v3 v4_6 s5) ∧ (¬ r4 < v2 * r1 → wX13_isBetter  v4 v3 s5 (fun (r7 : Int32) (s8 : Mem) => ((r7 = 0 → ∀ v4_9 : Int32, v4_9 = (v4 + 1) → wX13_best_5   Q E X67 n5 v1 v2 v3 v4_9 s8) ∧ (¬ r7 = 0 → ∀ v4_10 : Int32, v4_10 = (v4 + 1) → wX13_best_5   Q E X67 n5 v1 v2 v4 v4_10 s8))) E))) E))) E))
def wX13_best  (a1 : Int32) (a2 : Int32) (s0 : Mem) (Q : Int32 → Mem → Prop) (E : String → Mem → Prop) : Prop := ∃ m13 : Nat, wX13_best_5   Q E (fun (x3_11 : Int32) (s12 : Mem) => Q x3_11 s12) m13 a1 a2 0 1  s0
set_option maxRecDepth 20000 in
set_option maxHeartbeats 4000000 in
theorem oX13_best_5 {K : Fr} {Q : Int32 → Mem → Prop} {E : String → Mem → Prop} (B : Bd K cX13_best "YarnMillModel" 6 (some .int) 3 69 0 0 (RI Q) E)    {X67 : Int32 → Mem → Prop} {cells slots : Nat} (hX67 : ∀ (y3 : Int32) (τ : Mem), X67 y3 τ → Go K cells slots τ 67 [none, none, none, some (.int y3), none, none] ([])) (hc : cells ≤ 0) (hs : slots ≤ 0) : ∀ (n : Nat) (v1 : Int32) (v2 : Int32) (v3 : Int32) (v4 : Int32) (s0 : Mem), wX13_best_5   Q E X67 n v1 v2 v3 v4 s0 → Go K cells slots s0 5 [some (.ref (xad (fX K) 15 0)), some (.int v1), some (.int v2), some (.int v3), some (.int v4), none] ([]) := by
  intro n
  induction n with
  | zero => intro v1 v2 v3 v4 s0 h; exact absurd h (by simp [wX13_best_5])
  | succ n ih =>
    intro v1 v2 v3 v4 s0 h
    simp only [wX13_best_5] at h
    refine g_iload (np := 7) B.1 dX13_best_5 rfl rfl ?_
    refine g_iconst (np := 8) (v := 1) B.1 dX13_best_7 (by decide) rfl ?_
    refine g_aload_n (np := 9) B.1 dX13_best_8 rfl rfl ?_
    refine gf_YModel_9_15 (np := 12) B.1 dX13_best_9 rfl ?_
    refine g_bipush (np := 14) (v := 11) B.1 dX13_best_12 (by decide) rfl ?_
    refine g_ialdL (np := 15) B.1 10 8 (by decide) rfl rfl 11 (by decide) (vpl (by decide)) dX13_best_14 rfl ?_
    refine g_ishl (np := 16) B.1 dX13_best_15 rfl ?_
    refine g_icmp_ge (np := 19) (tgt := 67) B.1 dX13_best_16 (by decide) rfl (fun q => ?_) (fun q => ?_)
    · replace h := h.1 q
      refine Go.lle [none, none, none, some (.int v3), none, none] (by simp [lle]) ?_
      exact hX67 v3 s0 h
    · replace h := h.2 q
      refine g_aload_n (np := 20) B.1 dX13_best_19 rfl rfl ?_
      refine g_iload (np := 22) B.1 dX13_best_20 rfl rfl ?_
      refine g_iconst (np := 23) (v := 0) B.1 dX13_best_22 (by decide) rfl ?_
      refine gc_YModel_80 (np := 26) B   (oX13_sum B.1.tr   v4 0  _ _ _ h) (Nat.le_of_ble_eq_true rfl) (Nat.le_of_ble_eq_true rfl) (Nat.le_of_ble_eq_true rfl) hc hs dX13_best_23 rfl (fun r1 s2 h => ?_)
      refine g_istore (np := 28) (lv' := [some (.ref (xad (fX K) 15 0)), some (.int v1), some (.int v2), some (.int v3), some (.int v4), some (.int r1)]) B.1 dX13_best_26 (by decide) rfl rfl rfl ?_
      refine g_iload (np := 30) B.1 dX13_best_28 rfl rfl ?_
      refine g_iload_n (np := 31) B.1 dX13_best_30 rfl rfl ?_
      refine g_icmp_lt (np := 34) (tgt := 61) B.1 dX13_best_31 (by decide) rfl (fun q => ?_) (fun q => ?_)
      · replace h := h.1 q
        obtain ⟨v4_3, ev4_3⟩ : ∃ y : Int32, y = v4 + 1 := ⟨_, rfl⟩
        replace h := h v4_3 ev4_3
        refine g_iinc (np := 64) (v := v4_3) (lv' := [some (.ref (xad (fX K) 15 0)), some (.int v1), some (.int v2), some (.int v3), some (.int v4_3), some (.int r1)]) B.1 dX13_best_61 rfl (by rw [ev4_3]; rfl) (by decide) rfl rfl rfl ?_
        refine g_goto (tgt := 5) B.1 dX13_best_64 (by decide) ?_
        refine Go.lle [some (.ref (xad (fX K) 15 0)), some (.int v1), some (.int v2), some (.int v3), some (.int v4_3), none] (by simp [lle]) ?_
        exact ih v1 v2 v3 v4_3 s2 h
      · replace h := h.2 q
        refine g_aload_n (np := 35) B.1 dX13_best_34 rfl rfl ?_
        refine g_iload (np := 37) B.1 dX13_best_35 rfl rfl ?_
        refine g_iconst (np := 38) (v := 2) B.1 dX13_best_37 (by decide) rfl ?_
        refine gc_YModel_80 (np := 41) B   (oX13_sum B.1.tr   v4 2  _ _ _ h) (Nat.le_of_ble_eq_true rfl) (Nat.le_of_ble_eq_true rfl) (Nat.le_of_ble_eq_true rfl) hc hs dX13_best_38 rfl (fun r4 s5 h => ?_)
        refine g_iload_n (np := 42) B.1 dX13_best_41 rfl rfl ?_
        refine g_iload (np := 44) B.1 dX13_best_42 rfl rfl ?_
        refine g_imul (np := 45) B.1 dX13_best_44 rfl ?_
        refine g_icmp_lt (np := 48) (tgt := 61) B.1 dX13_best_45 (by decide) rfl (fun q => ?_) (fun q => ?_)
        · replace h := h.1 q
          obtain ⟨v4_6, ev4_6⟩ : ∃ y : Int32, y = v4 + 1 := ⟨_, rfl⟩
          replace h := h v4_6 ev4_6
          refine g_iinc (np := 64) (v := v4_6) (lv' := [some (.ref (xad (fX K) 15 0)), some (.int v1), some (.int v2), some (.int v3), some (.int v4_6), some (.int r1)]) B.1 dX13_best_61 rfl (by rw [ev4_6]; rfl) (by decide) rfl rfl rfl ?_
          refine g_goto (tgt := 5) B.1 dX13_best_64 (by decide) ?_
          refine Go.lle [some (.ref (xad (fX K) 15 0)), some (.int v1), some (.int v2), some (.int v3), some (.int v4_6), none] (by simp [lle]) ?_
          exact ih v1 v2 v3 v4_6 s5 h
        · replace h := h.2 q
          refine g_aload_n (np := 49) B.1 dX13_best_48 rfl rfl ?_
          refine g_iload (np := 51) B.1 dX13_best_49 rfl rfl ?_
          refine g_iload_n (np := 52) B.1 dX13_best_51 rfl rfl ?_
          refine gc_YModel_83 (np := 55) B   (oX13_isBetter B.1.tr   v4 v3  _ _ _ h) (Nat.le_of_ble_eq_true rfl) (Nat.le_of_ble_eq_true rfl) (Nat.le_of_ble_eq_true rfl) hc hs dX13_best_52 rfl (fun r7 s8 h => ?_)
          refine g_if_eq (np := 58) (tgt := 61) B.1 dX13_best_55 (by decide) rfl (fun q => ?_) (fun q => ?_)
          · replace h := h.1 q
            obtain ⟨v4_9, ev4_9⟩ : ∃ y : Int32, y = v4 + 1 := ⟨_, rfl⟩
            replace h := h v4_9 ev4_9
            refine g_iinc (np := 64) (v := v4_9) (lv' := [some (.ref (xad (fX K) 15 0)), some (.int v1), some (.int v2), some (.int v3), some (.int v4_9), some (.int r1)]) B.1 dX13_best_61 rfl (by rw [ev4_9]; rfl) (by decide) rfl rfl rfl ?_
            refine g_goto (tgt := 5) B.1 dX13_best_64 (by decide) ?_
            refine Go.lle [some (.ref (xad (fX K) 15 0)), some (.int v1), some (.int v2), some (.int v3), some (.int v4_9), none] (by simp [lle]) ?_
            exact ih v1 v2 v3 v4_9 s8 h
          · replace h := h.2 q
            refine g_iload (np := 60) B.1 dX13_best_58 rfl rfl ?_
            refine g_istore_n (np := 61) (lv' := [some (.ref (xad (fX K) 15 0)), some (.int v1), some (.int v2), some (.int v4), some (.int v4), some (.int r1)]) B.1 dX13_best_60 (by decide) rfl rfl rfl ?_
            obtain ⟨v4_10, ev4_10⟩ : ∃ y : Int32, y = v4 + 1 := ⟨_, rfl⟩
            replace h := h v4_10 ev4_10
            refine g_iinc (np := 64) (v := v4_10) (lv' := [some (.ref (xad (fX K) 15 0)), some (.int v1), some (.int v2), some (.int v4), some (.int v4_10), some (.int r1)]) B.1 dX13_best_61 rfl (by rw [ev4_10]; rfl) (by decide) rfl rfl rfl ?_
            refine g_goto (tgt := 5) B.1 dX13_best_64 (by decide) ?_
            refine Go.lle [some (.ref (xad (fX K) 15 0)), some (.int v1), some (.int v2), some (.int v4), some (.int v4_10), none] (by simp [lle]) ?_
            exact ih v1 v2 v4 v4_10 s8 h
set_option maxRecDepth 20000 in
set_option maxHeartbeats 4000000 in
theorem oX13_best {l : Launch} {x : Ctx} (hl : l.stackTraces = false)   (a1 : Int32) (a2 : Int32)  (s0 : Mem) (Q : Int32 → Mem → Prop) (E : String → Mem → Prop) (h : wX13_best  a1 a2 s0 Q E) : MetG l x yX13_best cX13_best 6 (some .int) 3 69 0 0 [.ref (xad x 15 0), .int a1, .int a2] s0 (RI Q) E := by
  refine MetG.of hl (by decide) (Nat.le_of_ble_eq_true rfl) [some (.ref (xad x 15 0)), some (.int a1), some (.int a2), none, none, none] rfl (fun K B hx _ => ?_)
  subst hx
  unfold wX13_best at h
  refine g_iconst (np := 1) (v := 0) B.1 dX13_best_0 (by decide) rfl ?_
  refine g_istore_n (np := 2) (lv' := [some (.ref (xad (fX K) 15 0)), some (.int a1), some (.int a2), some (.int 0), none, none]) B.1 dX13_best_1 (by decide) rfl rfl rfl ?_
  refine g_iconst (np := 3) (v := 1) B.1 dX13_best_2 (by decide) rfl ?_
  refine g_istore (np := 5) (lv' := [some (.ref (xad (fX K) 15 0)), some (.int a1), some (.int a2), some (.int 0), some (.int 1), none]) B.1 dX13_best_3 (by decide) rfl rfl rfl ?_
  obtain ⟨m13, h⟩ := h
  refine Go.lle [some (.ref (xad (fX K) 15 0)), some (.int a1), some (.int a2), some (.int 0), some (.int 1), none] (by simp [lle]) ?_
  refine oX13_best_5 B    (fun x3_11 s12 h => ?_) (Nat.le_of_ble_eq_true rfl) (Nat.le_of_ble_eq_true rfl) m13 a1 a2 0 1  s0 h
  refine g_iload_n (np := 68) B.1 dX13_best_67 rfl rfl ?_
  exact g_iret B (ty := .int) rfl rfl (Nat.le_of_ble_eq_true rfl) (Nat.le_of_ble_eq_true rfl) dX13_best_68 ⟨_, rfl, h⟩
def wX13_blends_96   (Q : Int32 → Mem → Prop) (E : String → Mem → Prop)  (X142 : Int32 → Mem → Prop) : Nat → Int32 → Int32 → Int32 → Mem → Prop
  | 0, _, _, _, _ => False
  | n96 + 1, v3, v4, v5, s0 => ((v5 < 0 → X142 v4 s0) ∧ (¬ v5 < 0 → ((¬ (v3 >>> (v5 &&& 31)) &&& 1 = 1 → ∀ v5_14 : Int32, v5_14 = (v5 + (-1)) → wX13_blends_96   Q E X142 n96 v3 v4 v5_14 s0) ∧ ((v3 >>> (v5 &&& 31)) &&& 1 = 1 → wX13_closes  (14 + (4 * v5)) 4 54 s0 (fun (s16 : Mem) => ∀ s17 : Mem, s17 = wr s16 10 8 11 ((rd s16 10 8 11) - 1) → ∀ v5_18 : Int32, v5_18 = (v5 + (-1)) → wX13_blends_96   Q E X142 n96 v3 v4 v5_18 s17) E))))
def wX13_blends_14   (Q : Int32 → Mem → Prop) (E : String → Mem → Prop)   : Int32 → Int32 → Int32 → Mem → Prop := fun v1 v2 z0 s0 => wX13_isThrown  z0 1 s0 (fun (r3 : Int32) (s4 : Mem) => ((r3 = 0 → wX13_best  v1 v2 s4 (fun (r5 : Int32) (s6 : Mem) => wX13_sum  r5 0 s6 (fun (r7 : Int32) (s8 : Mem) => ((¬ r5 = 0 → wX13_isThrown  0 2 s8 (fun (r9 : Int32) (s10 : Mem) => ((¬ r9 = 0 → Q 0 s10) ∧ (r9 = 0 → (((rd s10 10 8 1) + r7 ≤ 999 → wX13_isThrown  0 3 s10 (fun (r11 : Int32) (s12 : Mem) => ((r11 = 0 → ∀ v5_13 : Int32, v5_13 = ((rd s12 10 8 11) - 1) → ∃ m22 : Nat, wX13_blends_96   Q E (fun (x4_19 : Int32) (s20 : Mem) => ∀ s21 : Mem, s21 = wr s20 10 8 1 ((rd s20 10 8 1) + x4_19) → Q (rd s21 10 8 1) s21) m22 r5 r7 v5_13  s12) ∧ (¬ r11 = 0 → Q 0 s12))) E) ∧ (¬ (rd s10 10 8 1) + r7 ≤ 999 → wX13_isThrown  1 3 s10 (fun (r23 : Int32) (s24 : Mem) => ((r23 = 0 → ∀ v5_25 : Int32, v5_25 = ((rd s24 10 8 11) - 1) → ∃ m29 : Nat, wX13_blends_96   Q E (fun (x4_26 : Int32) (s27 : Mem) => ∀ s28 : Mem, s28 = wr s27 10 8 1 ((rd s27 10 8 1) + x4_26) → Q (rd s28 10 8 1) s28) m29 r5 r7 v5_25  s24) ∧ (¬ r23 = 0 → Q 0 s24))) E))))) E) ∧ (r5 = 0 → wX13_isThrown  1 2 s8 (fun (r30 : Int32) (s31 : Mem) => ((¬ r30 = 0 → Q 0 s31) ∧ (r30 = 0 → (((rd s31 10 8 1) + r7 ≤ 999 → wX13_isThrown  0 3 s31 (fun (r32 : Int32) (s33 : Mem) => ((r32 = 0 → ∀ v5_34 : Int32, v5_34 = ((rd s33 10 8 11) - 1) → ∃ m38 : Nat, wX13_blends_96   Q E (fun (x4_35 : Int32) (s36 : Mem) => ∀ s37 : Mem, s37 = wr s36 10 8 1 ((rd s36 10 8 1) + x4_35) → Q (rd s37 10 8 1) s37) m38 r5 r7 v5_34  s33) ∧ (¬ r32 = 0 → Q 0 s33))) E) ∧ (¬ (rd s31 10 8 1) + r7 ≤ 999 → wX13_isThrown  1 3 s31 (fun (r39 : Int32) (s40 : Mem) => ((r39 = 0 → ∀ v5_41 : Int32, v5_41 = ((rd s40 10 8 11) - 1) → ∃ m45 : Nat, wX13_blends_96   Q E (fun (x4_42 : Int32) (s43 : Mem) => ∀ s44 : Mem, s44 = wr s43 10 8 1 ((rd s43 10 8 1) + x4_42) → Q (rd s44 10 8 1) s44) m45 r5 r7 v5_41  s40) ∧ (¬ r39 = 0 → Q 0 s40))) E))))) E))) E) E) ∧ (¬ r3 = 0 → Q 0 s4))) E
def wX13_blends  (a1 : Int32) (a2 : Int32) (s0 : Mem) (Q : Int32 → Mem → Prop) (E : String → Mem → Prop) : Prop := wX13_isBlendAsked  a1 a2 s0 (fun (r1 : Int32) (s2 : Mem) => ((¬ r1 = 0 → wX13_blends_14   Q E  a1 a2 0 s2) ∧ (r1 = 0 → wX13_blends_14   Q E  a1 a2 1 s2))) E
set_option maxRecDepth 20000 in
set_option maxHeartbeats 4000000 in
theorem oX13_blends_96 {K : Fr} {Q : Int32 → Mem → Prop} {E : String → Mem → Prop} (B : Bd K cX13_blends "YarnMillModel" 6 (some .int) 4 94 0 0 (RI Q) E)    {X142 : Int32 → Mem → Prop} {cells slots : Nat} (hX142 : ∀ (y4 : Int32) (τ : Mem), X142 y4 τ → Go K cells slots τ 142 [some (.ref (xad (fX K) 15 0)), none, none, none, some (.int y4), none] ([])) (hc : cells ≤ 0) (hs : slots ≤ 0) : ∀ (n : Nat) (v3 : Int32) (v4 : Int32) (v5 : Int32) (s0 : Mem), wX13_blends_96   Q E X142 n v3 v4 v5 s0 → Go K cells slots s0 96 [some (.ref (xad (fX K) 15 0)), none, none, some (.int v3), some (.int v4), some (.int v5)] ([]) := by
  intro n
  induction n with
  | zero => intro v3 v4 v5 s0 h; exact absurd h (by simp [wX13_blends_96])
  | succ n ih =>
    intro v3 v4 v5 s0 h
    simp only [wX13_blends_96] at h
    refine g_iload (np := 98) B.1 dX13_blends_96 rfl rfl ?_
    refine g_if_lt (np := 101) (tgt := 142) B.1 dX13_blends_98 (by decide) rfl (fun q => ?_) (fun q => ?_)
    · replace h := h.1 q
      refine Go.lle [some (.ref (xad (fX K) 15 0)), none, none, none, some (.int v4), none] (by simp [lle]) ?_
      exact hX142 v4 s0 h
    · replace h := h.2 q
      refine g_iload_n (np := 102) B.1 dX13_blends_101 rfl rfl ?_
      refine g_iload (np := 104) B.1 dX13_blends_102 rfl rfl ?_
      refine g_ishr (np := 105) B.1 dX13_blends_104 rfl ?_
      refine g_iconst (np := 106) (v := 1) B.1 dX13_blends_105 (by decide) rfl ?_
      refine g_iand (np := 107) B.1 dX13_blends_106 rfl ?_
      refine g_iconst (np := 108) (v := 1) B.1 dX13_blends_107 (by decide) rfl ?_
      refine g_icmp_ne (np := 111) (tgt := 136) B.1 dX13_blends_108 (by decide) rfl (fun q => ?_) (fun q => ?_)
      · replace h := h.1 q
        obtain ⟨v5_14, ev5_14⟩ : ∃ y : Int32, y = v5 + (-1) := ⟨_, rfl⟩
        replace h := h v5_14 ev5_14
        refine g_iinc (np := 139) (v := v5_14) (lv' := [some (.ref (xad (fX K) 15 0)), none, none, some (.int v3), some (.int v4), some (.int v5_14)]) B.1 dX13_blends_136 rfl (by rw [ev5_14]; rfl) (by decide) rfl rfl rfl ?_
        refine g_goto (tgt := 96) B.1 dX13_blends_139 (by decide) ?_
        refine Go.lle [some (.ref (xad (fX K) 15 0)), none, none, some (.int v3), some (.int v4), some (.int v5_14)] (by simp [lle]) ?_
        exact ih v3 v4 v5_14 s0 h
      · replace h := h.2 q
        refine g_aload_n (np := 112) B.1 dX13_blends_111 rfl rfl ?_
        refine g_bipush (np := 114) (v := 14) B.1 dX13_blends_112 (by decide) rfl ?_
        refine g_iconst (np := 115) (v := 4) B.1 dX13_blends_114 (by decide) rfl ?_
        refine g_iload (np := 117) B.1 dX13_blends_115 rfl rfl ?_
        refine g_imul (np := 118) B.1 dX13_blends_117 rfl ?_
        refine g_iadd (np := 119) B.1 dX13_blends_118 rfl ?_
        refine g_iconst (np := 120) (v := 4) B.1 dX13_blends_119 (by decide) rfl ?_
        refine g_bipush (np := 122) (v := 54) B.1 dX13_blends_120 (by decide) rfl ?_
        refine gc_YModel_93 (np := 125) B   (oX13_closes B.1.tr   (14 + (4 * v5)) 4 54  _ _ _ h) (Nat.le_of_ble_eq_true rfl) (Nat.le_of_ble_eq_true rfl) (Nat.le_of_ble_eq_true rfl) hc hs dX13_blends_122 rfl (fun s16 h => ?_)
        refine g_aload_n (np := 126) B.1 dX13_blends_125 rfl rfl ?_
        refine gf_YModel_9_15 (np := 129) B.1 dX13_blends_126 rfl ?_
        refine g_bipush (np := 131) (v := 11) B.1 dX13_blends_129 (by decide) rfl ?_
        refine g_dup2 (np := 132) B.1 dX13_blends_131 rfl rfl rfl ?_
        refine g_ialdL (np := 133) B.1 10 8 (by decide) rfl rfl 11 (by decide) (vpl (by decide)) dX13_blends_132 rfl ?_
        refine g_iconst (np := 134) (v := 1) B.1 dX13_blends_133 (by decide) rfl ?_
        refine g_isub (np := 135) B.1 dX13_blends_134 rfl ?_
        refine g_iastL (np := 136) B.1 10 8 (by decide) rfl (fun _ _ => rfl) 11 (by decide) (vpl (by decide)) dX13_blends_135 rfl ?_
        refine g_mem (fun s17 es17 => ?_)
        replace h := h s17 es17
        obtain ⟨v5_18, ev5_18⟩ : ∃ y : Int32, y = v5 + (-1) := ⟨_, rfl⟩
        replace h := h v5_18 ev5_18
        refine g_iinc (np := 139) (v := v5_18) (lv' := [some (.ref (xad (fX K) 15 0)), none, none, some (.int v3), some (.int v4), some (.int v5_18)]) B.1 dX13_blends_136 rfl (by rw [ev5_18]; rfl) (by decide) rfl rfl rfl ?_
        refine g_goto (tgt := 96) B.1 dX13_blends_139 (by decide) ?_
        refine Go.lle [some (.ref (xad (fX K) 15 0)), none, none, some (.int v3), some (.int v4), some (.int v5_18)] (by simp [lle]) ?_
        exact ih v3 v4 v5_18 s17 h
set_option maxRecDepth 20000 in
set_option maxHeartbeats 4000000 in
theorem oX13_blends_14 {K : Fr} {Q : Int32 → Mem → Prop} {E : String → Mem → Prop} (B : Bd K cX13_blends "YarnMillModel" 6 (some .int) 4 94 0 0 (RI Q) E)     {cells slots : Nat}  (hc : cells ≤ 0) (hs : slots ≤ 0) : ∀ (v1 : Int32) (v2 : Int32) (z0 : Int32) (s0 : Mem), wX13_blends_14   Q E  v1 v2 z0 s0 → Go K cells slots s0 14 [some (.ref (xad (fX K) 15 0)), some (.int v1), some (.int v2), none, none, none] (.int z0 :: .ref (xad (fX K) 15 0) :: []) := by
  intro v1 v2 z0 s0 h
  unfold wX13_blends_14 at h
  refine g_iconst (np := 15) (v := 1) B.1 dX13_blends_14 (by decide) rfl ?_
  refine gc_YModel_65 (np := 18) B   (oX13_isThrown B.1.tr   z0 1  _ _ _ h) (Nat.le_of_ble_eq_true rfl) (Nat.le_of_ble_eq_true rfl) (Nat.le_of_ble_eq_true rfl) hc hs dX13_blends_15 rfl (fun r3 s4 h => ?_)
  refine g_if_eq (np := 21) (tgt := 23) B.1 dX13_blends_18 (by decide) rfl (fun q => ?_) (fun q => ?_)
  · replace h := h.1 q
    refine g_aload_n (np := 24) B.1 dX13_blends_23 rfl rfl ?_
    refine g_iload_n (np := 25) B.1 dX13_blends_24 rfl rfl ?_
    refine g_iload_n (np := 26) B.1 dX13_blends_25 rfl rfl ?_
    refine gc_YModel_90 (np := 29) B   (oX13_best B.1.tr   v1 v2  _ _ _ h) (Nat.le_of_ble_eq_true rfl) (Nat.le_of_ble_eq_true rfl) (Nat.le_of_ble_eq_true rfl) hc hs dX13_blends_26 rfl (fun r5 s6 h => ?_)
    refine g_istore_n (np := 30) (lv' := [some (.ref (xad (fX K) 15 0)), some (.int v1), some (.int v2), some (.int r5), none, none]) B.1 dX13_blends_29 (by decide) rfl rfl rfl ?_
    refine g_aload_n (np := 31) B.1 dX13_blends_30 rfl rfl ?_
    refine g_iload_n (np := 32) B.1 dX13_blends_31 rfl rfl ?_
    refine g_iconst (np := 33) (v := 0) B.1 dX13_blends_32 (by decide) rfl ?_
    refine gc_YModel_80 (np := 36) B   (oX13_sum B.1.tr   r5 0  _ _ _ h) (Nat.le_of_ble_eq_true rfl) (Nat.le_of_ble_eq_true rfl) (Nat.le_of_ble_eq_true rfl) hc hs dX13_blends_33 rfl (fun r7 s8 h => ?_)
    refine g_istore (np := 38) (lv' := [some (.ref (xad (fX K) 15 0)), some (.int v1), some (.int v2), some (.int r5), some (.int r7), none]) B.1 dX13_blends_36 (by decide) rfl rfl rfl ?_
    refine g_aload_n (np := 39) B.1 dX13_blends_38 rfl rfl ?_
    refine g_iload_n (np := 40) B.1 dX13_blends_39 rfl rfl ?_
    refine g_if_ne (np := 43) (tgt := 47) B.1 dX13_blends_40 (by decide) rfl (fun q => ?_) (fun q => ?_)
    · replace h := h.1 q
      refine g_iconst (np := 48) (v := 0) B.1 dX13_blends_47 (by decide) rfl ?_
      refine g_iconst (np := 49) (v := 2) B.1 dX13_blends_48 (by decide) rfl ?_
      refine gc_YModel_65 (np := 52) B   (oX13_isThrown B.1.tr   0 2  _ _ _ h) (Nat.le_of_ble_eq_true rfl) (Nat.le_of_ble_eq_true rfl) (Nat.le_of_ble_eq_true rfl) hc hs dX13_blends_49 rfl (fun r9 s10 h => ?_)
      refine g_if_ne (np := 55) (tgt := 83) B.1 dX13_blends_52 (by decide) rfl (fun q => ?_) (fun q => ?_)
      · replace h := h.1 q
        refine g_iconst (np := 84) (v := 0) B.1 dX13_blends_83 (by decide) rfl ?_
        exact g_iret B (ty := .int) rfl rfl hc hs dX13_blends_84 ⟨_, rfl, h⟩
      · replace h := h.2 q
        refine g_aload_n (np := 56) B.1 dX13_blends_55 rfl rfl ?_
        refine g_aload_n (np := 57) B.1 dX13_blends_56 rfl rfl ?_
        refine gf_YModel_9_15 (np := 60) B.1 dX13_blends_57 rfl ?_
        refine g_iconst (np := 61) (v := 1) B.1 dX13_blends_60 (by decide) rfl ?_
        refine g_ialdL (np := 62) B.1 10 8 (by decide) rfl rfl 1 (by decide) (vpl (by decide)) dX13_blends_61 rfl ?_
        refine g_iload (np := 64) B.1 dX13_blends_62 rfl rfl ?_
        refine g_iadd (np := 65) B.1 dX13_blends_64 rfl ?_
        refine g_sipush (np := 68) (v := 999) B.1 dX13_blends_65 (by decide) rfl ?_
        refine g_icmp_le (np := 71) (tgt := 75) B.1 dX13_blends_68 (by decide) rfl (fun q => ?_) (fun q => ?_)
        · replace h := h.1 q
          refine g_iconst (np := 76) (v := 0) B.1 dX13_blends_75 (by decide) rfl ?_
          refine g_iconst (np := 77) (v := 3) B.1 dX13_blends_76 (by decide) rfl ?_
          refine gc_YModel_65 (np := 80) B   (oX13_isThrown B.1.tr   0 3  _ _ _ h) (Nat.le_of_ble_eq_true rfl) (Nat.le_of_ble_eq_true rfl) (Nat.le_of_ble_eq_true rfl) hc hs dX13_blends_77 rfl (fun r11 s12 h => ?_)
          refine g_if_eq (np := 83) (tgt := 85) B.1 dX13_blends_80 (by decide) rfl (fun q => ?_) (fun q => ?_)
          · replace h := h.1 q
            refine g_aload_n (np := 86) B.1 dX13_blends_85 rfl rfl ?_
            refine gf_YModel_9_15 (np := 89) B.1 dX13_blends_86 rfl ?_
            refine g_bipush (np := 91) (v := 11) B.1 dX13_blends_89 (by decide) rfl ?_
            refine g_ialdL (np := 92) B.1 10 8 (by decide) rfl rfl 11 (by decide) (vpl (by decide)) dX13_blends_91 rfl ?_
            refine g_iconst (np := 93) (v := 1) B.1 dX13_blends_92 (by decide) rfl ?_
            refine g_isub (np := 94) B.1 dX13_blends_93 rfl ?_
            refine g_topi (fun v5_13 ev5_13 => ?_)
            replace h := h v5_13 ev5_13
            refine g_istore (np := 96) (lv' := [some (.ref (xad (fX K) 15 0)), some (.int v1), some (.int v2), some (.int r5), some (.int r7), some (.int v5_13)]) B.1 dX13_blends_94 (by decide) rfl rfl rfl ?_
            obtain ⟨m22, h⟩ := h
            refine Go.lle [some (.ref (xad (fX K) 15 0)), none, none, some (.int r5), some (.int r7), some (.int v5_13)] (by simp [lle]) ?_
            refine oX13_blends_96 B    (fun x4_19 s20 h => ?_) hc hs m22 r5 r7 v5_13  s12 h
            refine g_aload_n (np := 143) B.1 dX13_blends_142 rfl rfl ?_
            refine gf_YModel_9_15 (np := 146) B.1 dX13_blends_143 rfl ?_
            refine g_iconst (np := 147) (v := 1) B.1 dX13_blends_146 (by decide) rfl ?_
            refine g_dup2 (np := 148) B.1 dX13_blends_147 rfl rfl rfl ?_
            refine g_ialdL (np := 149) B.1 10 8 (by decide) rfl rfl 1 (by decide) (vpl (by decide)) dX13_blends_148 rfl ?_
            refine g_iload (np := 151) B.1 dX13_blends_149 rfl rfl ?_
            refine g_iadd (np := 152) B.1 dX13_blends_151 rfl ?_
            refine g_iastL (np := 153) B.1 10 8 (by decide) rfl (fun _ _ => rfl) 1 (by decide) (vpl (by decide)) dX13_blends_152 rfl ?_
            refine g_mem (fun s21 es21 => ?_)
            replace h := h s21 es21
            refine g_aload_n (np := 154) B.1 dX13_blends_153 rfl rfl ?_
            refine gf_YModel_9_15 (np := 157) B.1 dX13_blends_154 rfl ?_
            refine g_iconst (np := 158) (v := 1) B.1 dX13_blends_157 (by decide) rfl ?_
            refine g_ialdL (np := 159) B.1 10 8 (by decide) rfl rfl 1 (by decide) (vpl (by decide)) dX13_blends_158 rfl ?_
            exact g_iret B (ty := .int) rfl rfl hc hs dX13_blends_159 ⟨_, rfl, h⟩
          · replace h := h.2 q
            refine g_iconst (np := 84) (v := 0) B.1 dX13_blends_83 (by decide) rfl ?_
            exact g_iret B (ty := .int) rfl rfl hc hs dX13_blends_84 ⟨_, rfl, h⟩
        · replace h := h.2 q
          refine g_iconst (np := 72) (v := 1) B.1 dX13_blends_71 (by decide) rfl ?_
          refine g_goto (tgt := 76) B.1 dX13_blends_72 (by decide) ?_
          refine g_iconst (np := 77) (v := 3) B.1 dX13_blends_76 (by decide) rfl ?_
          refine gc_YModel_65 (np := 80) B   (oX13_isThrown B.1.tr   1 3  _ _ _ h) (Nat.le_of_ble_eq_true rfl) (Nat.le_of_ble_eq_true rfl) (Nat.le_of_ble_eq_true rfl) hc hs dX13_blends_77 rfl (fun r23 s24 h => ?_)
          refine g_if_eq (np := 83) (tgt := 85) B.1 dX13_blends_80 (by decide) rfl (fun q => ?_) (fun q => ?_)
          · replace h := h.1 q
            refine g_aload_n (np := 86) B.1 dX13_blends_85 rfl rfl ?_
            refine gf_YModel_9_15 (np := 89) B.1 dX13_blends_86 rfl ?_
            refine g_bipush (np := 91) (v := 11) B.1 dX13_blends_89 (by decide) rfl ?_
            refine g_ialdL (np := 92) B.1 10 8 (by decide) rfl rfl 11 (by decide) (vpl (by decide)) dX13_blends_91 rfl ?_
            refine g_iconst (np := 93) (v := 1) B.1 dX13_blends_92 (by decide) rfl ?_
            refine g_isub (np := 94) B.1 dX13_blends_93 rfl ?_
            refine g_topi (fun v5_25 ev5_25 => ?_)
            replace h := h v5_25 ev5_25
            refine g_istore (np := 96) (lv' := [some (.ref (xad (fX K) 15 0)), some (.int v1), some (.int v2), some (.int r5), some (.int r7), some (.int v5_25)]) B.1 dX13_blends_94 (by decide) rfl rfl rfl ?_
            obtain ⟨m29, h⟩ := h
            refine Go.lle [some (.ref (xad (fX K) 15 0)), none, none, some (.int r5), some (.int r7), some (.int v5_25)] (by simp [lle]) ?_
            refine oX13_blends_96 B    (fun x4_26 s27 h => ?_) hc hs m29 r5 r7 v5_25  s24 h
            refine g_aload_n (np := 143) B.1 dX13_blends_142 rfl rfl ?_
            refine gf_YModel_9_15 (np := 146) B.1 dX13_blends_143 rfl ?_
            refine g_iconst (np := 147) (v := 1) B.1 dX13_blends_146 (by decide) rfl ?_
            refine g_dup2 (np := 148) B.1 dX13_blends_147 rfl rfl rfl ?_
            refine g_ialdL (np := 149) B.1 10 8 (by decide) rfl rfl 1 (by decide) (vpl (by decide)) dX13_blends_148 rfl ?_
            refine g_iload (np := 151) B.1 dX13_blends_149 rfl rfl ?_
            refine g_iadd (np := 152) B.1 dX13_blends_151 rfl ?_
            refine g_iastL (np := 153) B.1 10 8 (by decide) rfl (fun _ _ => rfl) 1 (by decide) (vpl (by decide)) dX13_blends_152 rfl ?_
            refine g_mem (fun s28 es28 => ?_)
            replace h := h s28 es28
            refine g_aload_n (np := 154) B.1 dX13_blends_153 rfl rfl ?_
            refine gf_YModel_9_15 (np := 157) B.1 dX13_blends_154 rfl ?_
            refine g_iconst (np := 158) (v := 1) B.1 dX13_blends_157 (by decide) rfl ?_
            refine g_ialdL (np := 159) B.1 10 8 (by decide) rfl rfl 1 (by decide) (vpl (by decide)) dX13_blends_158 rfl ?_
            exact g_iret B (ty := .int) rfl rfl hc hs dX13_blends_159 ⟨_, rfl, h⟩
          · replace h := h.2 q
            refine g_iconst (np := 84) (v := 0) B.1 dX13_blends_83 (by decide) rfl ?_
            exact g_iret B (ty := .int) rfl rfl hc hs dX13_blends_84 ⟨_, rfl, h⟩
    · replace h := h.2 q
      refine g_iconst (np := 44) (v := 1) B.1 dX13_blends_43 (by decide) rfl ?_
      refine g_goto (tgt := 48) B.1 dX13_blends_44 (by decide) ?_
      refine g_iconst (np := 49) (v := 2) B.1 dX13_blends_48 (by decide) rfl ?_
      refine gc_YModel_65 (np := 52) B   (oX13_isThrown B.1.tr   1 2  _ _ _ h) (Nat.le_of_ble_eq_true rfl) (Nat.le_of_ble_eq_true rfl) (Nat.le_of_ble_eq_true rfl) hc hs dX13_blends_49 rfl (fun r30 s31 h => ?_)
      refine g_if_ne (np := 55) (tgt := 83) B.1 dX13_blends_52 (by decide) rfl (fun q => ?_) (fun q => ?_)
      · replace h := h.1 q
        refine g_iconst (np := 84) (v := 0) B.1 dX13_blends_83 (by decide) rfl ?_
        exact g_iret B (ty := .int) rfl rfl hc hs dX13_blends_84 ⟨_, rfl, h⟩
      · replace h := h.2 q
        refine g_aload_n (np := 56) B.1 dX13_blends_55 rfl rfl ?_
        refine g_aload_n (np := 57) B.1 dX13_blends_56 rfl rfl ?_
        refine gf_YModel_9_15 (np := 60) B.1 dX13_blends_57 rfl ?_
        refine g_iconst (np := 61) (v := 1) B.1 dX13_blends_60 (by decide) rfl ?_
        refine g_ialdL (np := 62) B.1 10 8 (by decide) rfl rfl 1 (by decide) (vpl (by decide)) dX13_blends_61 rfl ?_
        refine g_iload (np := 64) B.1 dX13_blends_62 rfl rfl ?_
        refine g_iadd (np := 65) B.1 dX13_blends_64 rfl ?_
        refine g_sipush (np := 68) (v := 999) B.1 dX13_blends_65 (by decide) rfl ?_
        refine g_icmp_le (np := 71) (tgt := 75) B.1 dX13_blends_68 (by decide) rfl (fun q => ?_) (fun q => ?_)
        · replace h := h.1 q
          refine g_iconst (np := 76) (v := 0) B.1 dX13_blends_75 (by decide) rfl ?_
          refine g_iconst (np := 77) (v := 3) B.1 dX13_blends_76 (by decide) rfl ?_
          refine gc_YModel_65 (np := 80) B   (oX13_isThrown B.1.tr   0 3  _ _ _ h) (Nat.le_of_ble_eq_true rfl) (Nat.le_of_ble_eq_true rfl) (Nat.le_of_ble_eq_true rfl) hc hs dX13_blends_77 rfl (fun r32 s33 h => ?_)
          refine g_if_eq (np := 83) (tgt := 85) B.1 dX13_blends_80 (by decide) rfl (fun q => ?_) (fun q => ?_)
          · replace h := h.1 q
            refine g_aload_n (np := 86) B.1 dX13_blends_85 rfl rfl ?_
            refine gf_YModel_9_15 (np := 89) B.1 dX13_blends_86 rfl ?_
            refine g_bipush (np := 91) (v := 11) B.1 dX13_blends_89 (by decide) rfl ?_
            refine g_ialdL (np := 92) B.1 10 8 (by decide) rfl rfl 11 (by decide) (vpl (by decide)) dX13_blends_91 rfl ?_
            refine g_iconst (np := 93) (v := 1) B.1 dX13_blends_92 (by decide) rfl ?_
            refine g_isub (np := 94) B.1 dX13_blends_93 rfl ?_
            refine g_topi (fun v5_34 ev5_34 => ?_)
            replace h := h v5_34 ev5_34
            refine g_istore (np := 96) (lv' := [some (.ref (xad (fX K) 15 0)), some (.int v1), some (.int v2), some (.int r5), some (.int r7), some (.int v5_34)]) B.1 dX13_blends_94 (by decide) rfl rfl rfl ?_
            obtain ⟨m38, h⟩ := h
            refine Go.lle [some (.ref (xad (fX K) 15 0)), none, none, some (.int r5), some (.int r7), some (.int v5_34)] (by simp [lle]) ?_
            refine oX13_blends_96 B    (fun x4_35 s36 h => ?_) hc hs m38 r5 r7 v5_34  s33 h
            refine g_aload_n (np := 143) B.1 dX13_blends_142 rfl rfl ?_
            refine gf_YModel_9_15 (np := 146) B.1 dX13_blends_143 rfl ?_
            refine g_iconst (np := 147) (v := 1) B.1 dX13_blends_146 (by decide) rfl ?_
            refine g_dup2 (np := 148) B.1 dX13_blends_147 rfl rfl rfl ?_
            refine g_ialdL (np := 149) B.1 10 8 (by decide) rfl rfl 1 (by decide) (vpl (by decide)) dX13_blends_148 rfl ?_
            refine g_iload (np := 151) B.1 dX13_blends_149 rfl rfl ?_
            refine g_iadd (np := 152) B.1 dX13_blends_151 rfl ?_
            refine g_iastL (np := 153) B.1 10 8 (by decide) rfl (fun _ _ => rfl) 1 (by decide) (vpl (by decide)) dX13_blends_152 rfl ?_
            refine g_mem (fun s37 es37 => ?_)
            replace h := h s37 es37
            refine g_aload_n (np := 154) B.1 dX13_blends_153 rfl rfl ?_
            refine gf_YModel_9_15 (np := 157) B.1 dX13_blends_154 rfl ?_
            refine g_iconst (np := 158) (v := 1) B.1 dX13_blends_157 (by decide) rfl ?_
            refine g_ialdL (np := 159) B.1 10 8 (by decide) rfl rfl 1 (by decide) (vpl (by decide)) dX13_blends_158 rfl ?_
            exact g_iret B (ty := .int) rfl rfl hc hs dX13_blends_159 ⟨_, rfl, h⟩
          · replace h := h.2 q
            refine g_iconst (np := 84) (v := 0) B.1 dX13_blends_83 (by decide) rfl ?_
            exact g_iret B (ty := .int) rfl rfl hc hs dX13_blends_84 ⟨_, rfl, h⟩
        · replace h := h.2 q
          refine g_iconst (np := 72) (v := 1) B.1 dX13_blends_71 (by decide) rfl ?_
          refine g_goto (tgt := 76) B.1 dX13_blends_72 (by decide) ?_
          refine g_iconst (np := 77) (v := 3) B.1 dX13_blends_76 (by decide) rfl ?_
          refine gc_YModel_65 (np := 80) B   (oX13_isThrown B.1.tr   1 3  _ _ _ h) (Nat.le_of_ble_eq_true rfl) (Nat.le_of_ble_eq_true rfl) (Nat.le_of_ble_eq_true rfl) hc hs dX13_blends_77 rfl (fun r39 s40 h => ?_)
          refine g_if_eq (np := 83) (tgt := 85) B.1 dX13_blends_80 (by decide) rfl (fun q => ?_) (fun q => ?_)
          · replace h := h.1 q
            refine g_aload_n (np := 86) B.1 dX13_blends_85 rfl rfl ?_
            refine gf_YModel_9_15 (np := 89) B.1 dX13_blends_86 rfl ?_
            refine g_bipush (np := 91) (v := 11) B.1 dX13_blends_89 (by decide) rfl ?_
            refine g_ialdL (np := 92) B.1 10 8 (by decide) rfl rfl 11 (by decide) (vpl (by decide)) dX13_blends_91 rfl ?_
            refine g_iconst (np := 93) (v := 1) B.1 dX13_blends_92 (by decide) rfl ?_
            refine g_isub (np := 94) B.1 dX13_blends_93 rfl ?_
            refine g_topi (fun v5_41 ev5_41 => ?_)
            replace h := h v5_41 ev5_41
            refine g_istore (np := 96) (lv' := [some (.ref (xad (fX K) 15 0)), some (.int v1), some (.int v2), some (.int r5), some (.int r7), some (.int v5_41)]) B.1 dX13_blends_94 (by decide) rfl rfl rfl ?_
            obtain ⟨m45, h⟩ := h
            refine Go.lle [some (.ref (xad (fX K) 15 0)), none, none, some (.int r5), some (.int r7), some (.int v5_41)] (by simp [lle]) ?_
            refine oX13_blends_96 B    (fun x4_42 s43 h => ?_) hc hs m45 r5 r7 v5_41  s40 h
            refine g_aload_n (np := 143) B.1 dX13_blends_142 rfl rfl ?_
            refine gf_YModel_9_15 (np := 146) B.1 dX13_blends_143 rfl ?_
            refine g_iconst (np := 147) (v := 1) B.1 dX13_blends_146 (by decide) rfl ?_
            refine g_dup2 (np := 148) B.1 dX13_blends_147 rfl rfl rfl ?_
            refine g_ialdL (np := 149) B.1 10 8 (by decide) rfl rfl 1 (by decide) (vpl (by decide)) dX13_blends_148 rfl ?_
            refine g_iload (np := 151) B.1 dX13_blends_149 rfl rfl ?_
            refine g_iadd (np := 152) B.1 dX13_blends_151 rfl ?_
            refine g_iastL (np := 153) B.1 10 8 (by decide) rfl (fun _ _ => rfl) 1 (by decide) (vpl (by decide)) dX13_blends_152 rfl ?_
            refine g_mem (fun s44 es44 => ?_)
            replace h := h s44 es44
            refine g_aload_n (np := 154) B.1 dX13_blends_153 rfl rfl ?_
            refine gf_YModel_9_15 (np := 157) B.1 dX13_blends_154 rfl ?_
            refine g_iconst (np := 158) (v := 1) B.1 dX13_blends_157 (by decide) rfl ?_
            refine g_ialdL (np := 159) B.1 10 8 (by decide) rfl rfl 1 (by decide) (vpl (by decide)) dX13_blends_158 rfl ?_
            exact g_iret B (ty := .int) rfl rfl hc hs dX13_blends_159 ⟨_, rfl, h⟩
          · replace h := h.2 q
            refine g_iconst (np := 84) (v := 0) B.1 dX13_blends_83 (by decide) rfl ?_
            exact g_iret B (ty := .int) rfl rfl hc hs dX13_blends_84 ⟨_, rfl, h⟩
  · replace h := h.2 q
    refine g_iconst (np := 22) (v := 0) B.1 dX13_blends_21 (by decide) rfl ?_
    exact g_iret B (ty := .int) rfl rfl hc hs dX13_blends_22 ⟨_, rfl, h⟩
set_option maxRecDepth 20000 in
set_option maxHeartbeats 4000000 in
theorem oX13_blends {l : Launch} {x : Ctx} (hl : l.stackTraces = false)   (a1 : Int32) (a2 : Int32)  (s0 : Mem) (Q : Int32 → Mem → Prop) (E : String → Mem → Prop) (h : wX13_blends  a1 a2 s0 Q E) : MetG l x yX13_blends cX13_blends 6 (some .int) 4 94 0 0 [.ref (xad x 15 0), .int a1, .int a2] s0 (RI Q) E := by
  refine MetG.of hl (by decide) (Nat.le_of_ble_eq_true rfl) [some (.ref (xad x 15 0)), some (.int a1), some (.int a2), none, none, none] rfl (fun K B hx _ => ?_)
  subst hx
  unfold wX13_blends at h
  refine g_aload_n (np := 1) B.1 dX13_blends_0 rfl rfl ?_
  refine g_iload_n (np := 2) B.1 dX13_blends_1 rfl rfl ?_
  refine g_iload_n (np := 3) B.1 dX13_blends_2 rfl rfl ?_
  refine gc_YModel_87 (np := 6) B   (oX13_isBlendAsked B.1.tr   a1 a2  _ _ _ h) (Nat.le_of_ble_eq_true rfl) (Nat.le_of_ble_eq_true rfl) (Nat.le_of_ble_eq_true rfl) (Nat.le_of_ble_eq_true rfl) (Nat.le_of_ble_eq_true rfl) dX13_blends_3 rfl (fun r1 s2 h => ?_)
  refine g_if_ne (np := 9) (tgt := 13) B.1 dX13_blends_6 (by decide) rfl (fun q => ?_) (fun q => ?_)
  · replace h := h.1 q
    refine g_iconst (np := 14) (v := 0) B.1 dX13_blends_13 (by decide) rfl ?_
    refine Go.lle [some (.ref (xad (fX K) 15 0)), some (.int a1), some (.int a2), none, none, none] (by simp [lle]) ?_
    refine oX13_blends_14 B     (Nat.le_of_ble_eq_true rfl) (Nat.le_of_ble_eq_true rfl) a1 a2 0 s2 h
  · replace h := h.2 q
    refine g_iconst (np := 10) (v := 1) B.1 dX13_blends_9 (by decide) rfl ?_
    refine g_goto (tgt := 14) B.1 dX13_blends_10 (by decide) ?_
    refine Go.lle [some (.ref (xad (fX K) 15 0)), some (.int a1), some (.int a2), none, none, none] (by simp [lle]) ?_
    refine oX13_blends_14 B     (Nat.le_of_ble_eq_true rfl) (Nat.le_of_ble_eq_true rfl) a1 a2 1 s2 h
def wX13_blend  (a1 : Int32) (a2 : Int32) (s0 : Mem) (Q : Int32 → Mem → Prop) (E : String → Mem → Prop) : Prop := wX13_keeps   s0 (fun (s2 : Mem) => wX13_blends  a1 a2 s2 (fun (r3 : Int32) (s4 : Mem) => wX13_ends  r3 s4 (fun (r5 : Int32) (s6 : Mem) => Q r5 s6) E) E) E
set_option maxRecDepth 20000 in
set_option maxHeartbeats 4000000 in
theorem oX13_blend {l : Launch} {x : Ctx} (hl : l.stackTraces = false)   (a1 : Int32) (a2 : Int32)  (s0 : Mem) (Q : Int32 → Mem → Prop) (E : String → Mem → Prop) (h : wX13_blend  a1 a2 s0 Q E) : MetG l x yX13_blend cX13_blend 3 (some .int) 5 119 0 0 [.ref (xad x 15 0), .int a1, .int a2] s0 (RI Q) E := by
  refine MetG.of hl (by decide) (Nat.le_of_ble_eq_true rfl) [some (.ref (xad x 15 0)), some (.int a1), some (.int a2)] rfl (fun K B hx _ => ?_)
  subst hx
  unfold wX13_blend at h
  refine g_aload_n (np := 1) B.1 dX13_blend_0 rfl rfl ?_
  refine gc_YModel_69 (np := 4) B   (oX13_keeps B.1.tr     _ _ _ h) (Nat.le_of_ble_eq_true rfl) (Nat.le_of_ble_eq_true rfl) (Nat.le_of_ble_eq_true rfl) (Nat.le_of_ble_eq_true rfl) (Nat.le_of_ble_eq_true rfl) dX13_blend_1 rfl (fun s2 h => ?_)
  refine g_aload_n (np := 5) B.1 dX13_blend_4 rfl rfl ?_
  refine g_aload_n (np := 6) B.1 dX13_blend_5 rfl rfl ?_
  refine g_iload_n (np := 7) B.1 dX13_blend_6 rfl rfl ?_
  refine g_iload_n (np := 8) B.1 dX13_blend_7 rfl rfl ?_
  refine gc_YModel_97 (np := 11) B   (oX13_blends B.1.tr   a1 a2  _ _ _ h) (Nat.le_of_ble_eq_true rfl) (Nat.le_of_ble_eq_true rfl) (Nat.le_of_ble_eq_true rfl) (Nat.le_of_ble_eq_true rfl) (Nat.le_of_ble_eq_true rfl) dX13_blend_8 rfl (fun r3 s4 h => ?_)
  refine gc_YModel_76 (np := 14) B   (oX13_ends B.1.tr   r3  _ _ _ h) (Nat.le_of_ble_eq_true rfl) (Nat.le_of_ble_eq_true rfl) (Nat.le_of_ble_eq_true rfl) (Nat.le_of_ble_eq_true rfl) (Nat.le_of_ble_eq_true rfl) dX13_blend_11 rfl (fun r5 s6 h => ?_)
  exact g_iret B (ty := .int) rfl rfl (Nat.le_of_ble_eq_true rfl) (Nat.le_of_ble_eq_true rfl) dX13_blend_14 ⟨_, rfl, h⟩
def wX13_opens_51   (Q : Int32 → Mem → Prop) (E : String → Mem → Prop)   : Int32 → Int32 → Int32 → Mem → Prop := fun v1 v2 z0 s0 => wX13_isThrown  z0 2 s0 (fun (r5 : Int32) (s6 : Mem) => ((r5 = 0 → ∀ v3_7 : Int32, v3_7 = (54 + (3 * (rd s6 10 8 12))) → vp_in (v3_7 + 0) (iaLen 8) ∧ ∀ s8 : Mem, s8 = wr s6 10 8 (v3_7 + 0).toNatClampNeg (rd s6 10 8 10) → vp_in (v3_7 + 1) (iaLen 8) ∧ ∀ s9 : Mem, s9 = wr s8 10 8 (v3_7 + 1).toNatClampNeg v1 → vp_in (v3_7 + 2) (iaLen 8) ∧ ∀ s10 : Mem, s10 = wr s9 10 8 (v3_7 + 2).toNatClampNeg v2 → ∀ s11 : Mem, s11 = wr s10 10 8 12 ((rd s10 10 8 12) + 1) → ∀ s12 : Mem, s12 = wr s11 10 8 10 ((rd s11 10 8 10) + 1) → Q ((rd s12 10 8 10) - 1) s12) ∧ (¬ r5 = 0 → Q 0 s6))) E
def wX13_opens_26   (Q : Int32 → Mem → Prop) (E : String → Mem → Prop)   : Int32 → Int32 → Int32 → Mem → Prop := fun v1 v2 z0 s0 => wX13_isThrown  z0 1 s0 (fun (r3 : Int32) (s4 : Mem) => ((¬ r3 = 0 → Q 0 s4) ∧ (r3 = 0 → ((¬ rd s4 10 8 12 = 8 → wX13_opens_51   Q E  v1 v2 0 s4) ∧ (rd s4 10 8 12 = 8 → wX13_opens_51   Q E  v1 v2 1 s4))))) E
def wX13_opens_21   (Q : Int32 → Mem → Prop) (E : String → Mem → Prop)   : Int32 → Int32 → Mem → Prop := fun v1 v2 s0 => wX13_opens_26   Q E  v1 v2 1 s0
def wX13_opens  (a1 : Int32) (a2 : Int32) (s0 : Mem) (Q : Int32 → Mem → Prop) (E : String → Mem → Prop) : Prop := wX13_isIn  a1 1 40 s0 (fun (r1 : Int32) (s2 : Mem) => ((r1 = 0 → wX13_opens_21   Q E  a1 a2  s2) ∧ (¬ r1 = 0 → wX13_isIn  a2 1 9 s2 (fun (r13 : Int32) (s14 : Mem) => ((¬ r13 = 0 → wX13_opens_26   Q E  a1 a2 0 s14) ∧ (r13 = 0 → wX13_opens_21   Q E  a1 a2  s14))) E))) E
set_option maxRecDepth 20000 in
set_option maxHeartbeats 4000000 in
theorem oX13_opens_51 {K : Fr} {Q : Int32 → Mem → Prop} {E : String → Mem → Prop} (B : Bd K cX13_opens "YarnMillModel" 4 (some .int) 1 22 0 0 (RI Q) E)     {cells slots : Nat}  (hc : cells ≤ 0) (hs : slots ≤ 0) : ∀ (v1 : Int32) (v2 : Int32) (z0 : Int32) (s0 : Mem), wX13_opens_51   Q E  v1 v2 z0 s0 → Go K cells slots s0 51 [some (.ref (xad (fX K) 15 0)), some (.int v1), some (.int v2), none] (.int z0 :: .ref (xad (fX K) 15 0) :: []) := by
  intro v1 v2 z0 s0 h
  unfold wX13_opens_51 at h
  refine g_iconst (np := 52) (v := 2) B.1 dX13_opens_51 (by decide) rfl ?_
  refine gc_YModel_65 (np := 55) B   (oX13_isThrown B.1.tr   z0 2  _ _ _ h) (Nat.le_of_ble_eq_true rfl) (Nat.le_of_ble_eq_true rfl) (Nat.le_of_ble_eq_true rfl) hc hs dX13_opens_52 rfl (fun r5 s6 h => ?_)
  refine g_if_eq (np := 58) (tgt := 60) B.1 dX13_opens_55 (by decide) rfl (fun q => ?_) (fun q => ?_)
  · replace h := h.1 q
    refine g_bipush (np := 62) (v := 54) B.1 dX13_opens_60 (by decide) rfl ?_
    refine g_iconst (np := 63) (v := 3) B.1 dX13_opens_62 (by decide) rfl ?_
    refine g_aload_n (np := 64) B.1 dX13_opens_63 rfl rfl ?_
    refine gf_YModel_9_15 (np := 67) B.1 dX13_opens_64 rfl ?_
    refine g_bipush (np := 69) (v := 12) B.1 dX13_opens_67 (by decide) rfl ?_
    refine g_ialdL (np := 70) B.1 10 8 (by decide) rfl rfl 12 (by decide) (vpl (by decide)) dX13_opens_69 rfl ?_
    refine g_imul (np := 71) B.1 dX13_opens_70 rfl ?_
    refine g_iadd (np := 72) B.1 dX13_opens_71 rfl ?_
    refine g_topi (fun v3_7 ev3_7 => ?_)
    replace h := h v3_7 ev3_7
    refine g_istore_n (np := 73) (lv' := [some (.ref (xad (fX K) 15 0)), some (.int v1), some (.int v2), some (.int v3_7)]) B.1 dX13_opens_72 (by decide) rfl rfl rfl ?_
    refine g_aload_n (np := 74) B.1 dX13_opens_73 rfl rfl ?_
    refine gf_YModel_9_15 (np := 77) B.1 dX13_opens_74 rfl ?_
    refine g_iload_n (np := 78) B.1 dX13_opens_77 rfl rfl ?_
    refine g_iconst (np := 79) (v := 0) B.1 dX13_opens_78 (by decide) rfl ?_
    refine g_iadd (np := 80) B.1 dX13_opens_79 rfl ?_
    refine g_aload_n (np := 81) B.1 dX13_opens_80 rfl rfl ?_
    refine gf_YModel_9_15 (np := 84) B.1 dX13_opens_81 rfl ?_
    refine g_bipush (np := 86) (v := 10) B.1 dX13_opens_84 (by decide) rfl ?_
    refine g_ialdL (np := 87) B.1 10 8 (by decide) rfl rfl 10 (by decide) (vpl (by decide)) dX13_opens_86 rfl ?_
    refine g_iast (np := 88) B.1 10 8 (by decide) rfl (fun _ _ => rfl) h.1 dX13_opens_87 rfl ?_
    replace h := h.2
    refine g_mem (fun s8 es8 => ?_)
    replace h := h s8 es8
    refine g_aload_n (np := 89) B.1 dX13_opens_88 rfl rfl ?_
    refine gf_YModel_9_15 (np := 92) B.1 dX13_opens_89 rfl ?_
    refine g_iload_n (np := 93) B.1 dX13_opens_92 rfl rfl ?_
    refine g_iconst (np := 94) (v := 1) B.1 dX13_opens_93 (by decide) rfl ?_
    refine g_iadd (np := 95) B.1 dX13_opens_94 rfl ?_
    refine g_iload_n (np := 96) B.1 dX13_opens_95 rfl rfl ?_
    refine g_iast (np := 97) B.1 10 8 (by decide) rfl (fun _ _ => rfl) h.1 dX13_opens_96 rfl ?_
    replace h := h.2
    refine g_mem (fun s9 es9 => ?_)
    replace h := h s9 es9
    refine g_aload_n (np := 98) B.1 dX13_opens_97 rfl rfl ?_
    refine gf_YModel_9_15 (np := 101) B.1 dX13_opens_98 rfl ?_
    refine g_iload_n (np := 102) B.1 dX13_opens_101 rfl rfl ?_
    refine g_iconst (np := 103) (v := 2) B.1 dX13_opens_102 (by decide) rfl ?_
    refine g_iadd (np := 104) B.1 dX13_opens_103 rfl ?_
    refine g_iload_n (np := 105) B.1 dX13_opens_104 rfl rfl ?_
    refine g_iast (np := 106) B.1 10 8 (by decide) rfl (fun _ _ => rfl) h.1 dX13_opens_105 rfl ?_
    replace h := h.2
    refine g_mem (fun s10 es10 => ?_)
    replace h := h s10 es10
    refine g_aload_n (np := 107) B.1 dX13_opens_106 rfl rfl ?_
    refine gf_YModel_9_15 (np := 110) B.1 dX13_opens_107 rfl ?_
    refine g_bipush (np := 112) (v := 12) B.1 dX13_opens_110 (by decide) rfl ?_
    refine g_dup2 (np := 113) B.1 dX13_opens_112 rfl rfl rfl ?_
    refine g_ialdL (np := 114) B.1 10 8 (by decide) rfl rfl 12 (by decide) (vpl (by decide)) dX13_opens_113 rfl ?_
    refine g_iconst (np := 115) (v := 1) B.1 dX13_opens_114 (by decide) rfl ?_
    refine g_iadd (np := 116) B.1 dX13_opens_115 rfl ?_
    refine g_iastL (np := 117) B.1 10 8 (by decide) rfl (fun _ _ => rfl) 12 (by decide) (vpl (by decide)) dX13_opens_116 rfl ?_
    refine g_mem (fun s11 es11 => ?_)
    replace h := h s11 es11
    refine g_aload_n (np := 118) B.1 dX13_opens_117 rfl rfl ?_
    refine gf_YModel_9_15 (np := 121) B.1 dX13_opens_118 rfl ?_
    refine g_bipush (np := 123) (v := 10) B.1 dX13_opens_121 (by decide) rfl ?_
    refine g_dup2 (np := 124) B.1 dX13_opens_123 rfl rfl rfl ?_
    refine g_ialdL (np := 125) B.1 10 8 (by decide) rfl rfl 10 (by decide) (vpl (by decide)) dX13_opens_124 rfl ?_
    refine g_iconst (np := 126) (v := 1) B.1 dX13_opens_125 (by decide) rfl ?_
    refine g_iadd (np := 127) B.1 dX13_opens_126 rfl ?_
    refine g_iastL (np := 128) B.1 10 8 (by decide) rfl (fun _ _ => rfl) 10 (by decide) (vpl (by decide)) dX13_opens_127 rfl ?_
    refine g_mem (fun s12 es12 => ?_)
    replace h := h s12 es12
    refine g_aload_n (np := 129) B.1 dX13_opens_128 rfl rfl ?_
    refine gf_YModel_9_15 (np := 132) B.1 dX13_opens_129 rfl ?_
    refine g_bipush (np := 134) (v := 10) B.1 dX13_opens_132 (by decide) rfl ?_
    refine g_ialdL (np := 135) B.1 10 8 (by decide) rfl rfl 10 (by decide) (vpl (by decide)) dX13_opens_134 rfl ?_
    refine g_iconst (np := 136) (v := 1) B.1 dX13_opens_135 (by decide) rfl ?_
    refine g_isub (np := 137) B.1 dX13_opens_136 rfl ?_
    exact g_iret B (ty := .int) rfl rfl hc hs dX13_opens_137 ⟨_, rfl, h⟩
  · replace h := h.2 q
    refine g_iconst (np := 59) (v := 0) B.1 dX13_opens_58 (by decide) rfl ?_
    exact g_iret B (ty := .int) rfl rfl hc hs dX13_opens_59 ⟨_, rfl, h⟩
set_option maxRecDepth 20000 in
set_option maxHeartbeats 4000000 in
theorem oX13_opens_26 {K : Fr} {Q : Int32 → Mem → Prop} {E : String → Mem → Prop} (B : Bd K cX13_opens "YarnMillModel" 4 (some .int) 1 22 0 0 (RI Q) E)     {cells slots : Nat}  (hc : cells ≤ 0) (hs : slots ≤ 0) : ∀ (v1 : Int32) (v2 : Int32) (z0 : Int32) (s0 : Mem), wX13_opens_26   Q E  v1 v2 z0 s0 → Go K cells slots s0 26 [some (.ref (xad (fX K) 15 0)), some (.int v1), some (.int v2), none] (.int z0 :: .ref (xad (fX K) 15 0) :: []) := by
  intro v1 v2 z0 s0 h
  unfold wX13_opens_26 at h
  refine g_iconst (np := 27) (v := 1) B.1 dX13_opens_26 (by decide) rfl ?_
  refine gc_YModel_65 (np := 30) B   (oX13_isThrown B.1.tr   z0 1  _ _ _ h) (Nat.le_of_ble_eq_true rfl) (Nat.le_of_ble_eq_true rfl) (Nat.le_of_ble_eq_true rfl) hc hs dX13_opens_27 rfl (fun r3 s4 h => ?_)
  refine g_if_ne (np := 33) (tgt := 58) B.1 dX13_opens_30 (by decide) rfl (fun q => ?_) (fun q => ?_)
  · replace h := h.1 q
    refine g_iconst (np := 59) (v := 0) B.1 dX13_opens_58 (by decide) rfl ?_
    exact g_iret B (ty := .int) rfl rfl hc hs dX13_opens_59 ⟨_, rfl, h⟩
  · replace h := h.2 q
    refine g_aload_n (np := 34) B.1 dX13_opens_33 rfl rfl ?_
    refine g_aload_n (np := 35) B.1 dX13_opens_34 rfl rfl ?_
    refine gf_YModel_9_15 (np := 38) B.1 dX13_opens_35 rfl ?_
    refine g_bipush (np := 40) (v := 12) B.1 dX13_opens_38 (by decide) rfl ?_
    refine g_ialdL (np := 41) B.1 10 8 (by decide) rfl rfl 12 (by decide) (vpl (by decide)) dX13_opens_40 rfl ?_
    refine g_bipush (np := 43) (v := 8) B.1 dX13_opens_41 (by decide) rfl ?_
    refine g_icmp_ne (np := 46) (tgt := 50) B.1 dX13_opens_43 (by decide) rfl (fun q => ?_) (fun q => ?_)
    · replace h := h.1 q
      refine g_iconst (np := 51) (v := 0) B.1 dX13_opens_50 (by decide) rfl ?_
      refine Go.lle [some (.ref (xad (fX K) 15 0)), some (.int v1), some (.int v2), none] (by simp [lle]) ?_
      refine oX13_opens_51 B     hc hs v1 v2 0 s4 h
    · replace h := h.2 q
      refine g_iconst (np := 47) (v := 1) B.1 dX13_opens_46 (by decide) rfl ?_
      refine g_goto (tgt := 51) B.1 dX13_opens_47 (by decide) ?_
      refine Go.lle [some (.ref (xad (fX K) 15 0)), some (.int v1), some (.int v2), none] (by simp [lle]) ?_
      refine oX13_opens_51 B     hc hs v1 v2 1 s4 h
set_option maxRecDepth 20000 in
set_option maxHeartbeats 4000000 in
theorem oX13_opens_21 {K : Fr} {Q : Int32 → Mem → Prop} {E : String → Mem → Prop} (B : Bd K cX13_opens "YarnMillModel" 4 (some .int) 1 22 0 0 (RI Q) E)     {cells slots : Nat}  (hc : cells ≤ 0) (hs : slots ≤ 0) : ∀ (v1 : Int32) (v2 : Int32) (s0 : Mem), wX13_opens_21   Q E  v1 v2 s0 → Go K cells slots s0 21 [some (.ref (xad (fX K) 15 0)), some (.int v1), some (.int v2), none] (.ref (xad (fX K) 15 0) :: []) := by
  intro v1 v2 s0 h
  unfold wX13_opens_21 at h
  refine g_iconst (np := 22) (v := 1) B.1 dX13_opens_21 (by decide) rfl ?_
  refine g_goto (tgt := 26) B.1 dX13_opens_22 (by decide) ?_
  refine Go.lle [some (.ref (xad (fX K) 15 0)), some (.int v1), some (.int v2), none] (by simp [lle]) ?_
  refine oX13_opens_26 B     hc hs v1 v2 1 s0 h
set_option maxRecDepth 20000 in
set_option maxHeartbeats 4000000 in
theorem oX13_opens {l : Launch} {x : Ctx} (hl : l.stackTraces = false)   (a1 : Int32) (a2 : Int32)  (s0 : Mem) (Q : Int32 → Mem → Prop) (E : String → Mem → Prop) (h : wX13_opens  a1 a2 s0 Q E) : MetG l x yX13_opens cX13_opens 4 (some .int) 1 22 0 0 [.ref (xad x 15 0), .int a1, .int a2] s0 (RI Q) E := by
  refine MetG.of hl (by decide) (Nat.le_of_ble_eq_true rfl) [some (.ref (xad x 15 0)), some (.int a1), some (.int a2), none] rfl (fun K B hx _ => ?_)
  subst hx
  unfold wX13_opens at h
  refine g_aload_n (np := 1) B.1 dX13_opens_0 rfl rfl ?_
  refine g_iload_n (np := 2) B.1 dX13_opens_1 rfl rfl ?_
  refine g_iconst (np := 3) (v := 1) B.1 dX13_opens_2 (by decide) rfl ?_
  refine g_bipush (np := 5) (v := 40) B.1 dX13_opens_3 (by decide) rfl ?_
  refine gc_YModel_61 (np := 8) B   (oX13_isIn B.1.tr   a1 1 40  _ _ _ h) (Nat.le_of_ble_eq_true rfl) (Nat.le_of_ble_eq_true rfl) (Nat.le_of_ble_eq_true rfl) (Nat.le_of_ble_eq_true rfl) (Nat.le_of_ble_eq_true rfl) dX13_opens_5 rfl (fun r1 s2 h => ?_)
  refine g_if_eq (np := 11) (tgt := 21) B.1 dX13_opens_8 (by decide) rfl (fun q => ?_) (fun q => ?_)
  · replace h := h.1 q
    refine Go.lle [some (.ref (xad (fX K) 15 0)), some (.int a1), some (.int a2), none] (by simp [lle]) ?_
    refine oX13_opens_21 B     (Nat.le_of_ble_eq_true rfl) (Nat.le_of_ble_eq_true rfl) a1 a2  s2 h
  · replace h := h.2 q
    refine g_iload_n (np := 12) B.1 dX13_opens_11 rfl rfl ?_
    refine g_iconst (np := 13) (v := 1) B.1 dX13_opens_12 (by decide) rfl ?_
    refine g_bipush (np := 15) (v := 9) B.1 dX13_opens_13 (by decide) rfl ?_
    refine gc_YModel_61 (np := 18) B   (oX13_isIn B.1.tr   a2 1 9  _ _ _ h) (Nat.le_of_ble_eq_true rfl) (Nat.le_of_ble_eq_true rfl) (Nat.le_of_ble_eq_true rfl) (Nat.le_of_ble_eq_true rfl) (Nat.le_of_ble_eq_true rfl) dX13_opens_15 rfl (fun r13 s14 h => ?_)
    refine g_if_ne (np := 21) (tgt := 25) B.1 dX13_opens_18 (by decide) rfl (fun q => ?_) (fun q => ?_)
    · replace h := h.1 q
      refine g_iconst (np := 26) (v := 0) B.1 dX13_opens_25 (by decide) rfl ?_
      refine Go.lle [some (.ref (xad (fX K) 15 0)), some (.int a1), some (.int a2), none] (by simp [lle]) ?_
      refine oX13_opens_26 B     (Nat.le_of_ble_eq_true rfl) (Nat.le_of_ble_eq_true rfl) a1 a2 0 s14 h
    · replace h := h.2 q
      refine Go.lle [some (.ref (xad (fX K) 15 0)), some (.int a1), some (.int a2), none] (by simp [lle]) ?_
      refine oX13_opens_21 B     (Nat.le_of_ble_eq_true rfl) (Nat.le_of_ble_eq_true rfl) a1 a2  s14 h
def wX13_addOrder  (a1 : Int32) (a2 : Int32) (s0 : Mem) (Q : Int32 → Mem → Prop) (E : String → Mem → Prop) : Prop := wX13_keeps   s0 (fun (s2 : Mem) => wX13_opens  a1 a2 s2 (fun (r3 : Int32) (s4 : Mem) => wX13_ends  r3 s4 (fun (r5 : Int32) (s6 : Mem) => Q r5 s6) E) E) E
set_option maxRecDepth 20000 in
set_option maxHeartbeats 4000000 in
theorem oX13_addOrder {l : Launch} {x : Ctx} (hl : l.stackTraces = false)   (a1 : Int32) (a2 : Int32)  (s0 : Mem) (Q : Int32 → Mem → Prop) (E : String → Mem → Prop) (h : wX13_addOrder  a1 a2 s0 Q E) : MetG l x yX13_addOrder cX13_addOrder 3 (some .int) 2 46 0 0 [.ref (xad x 15 0), .int a1, .int a2] s0 (RI Q) E := by
  refine MetG.of hl (by decide) (Nat.le_of_ble_eq_true rfl) [some (.ref (xad x 15 0)), some (.int a1), some (.int a2)] rfl (fun K B hx _ => ?_)
  subst hx
  unfold wX13_addOrder at h
  refine g_aload_n (np := 1) B.1 dX13_addOrder_0 rfl rfl ?_
  refine gc_YModel_69 (np := 4) B   (oX13_keeps B.1.tr     _ _ _ h) (Nat.le_of_ble_eq_true rfl) (Nat.le_of_ble_eq_true rfl) (Nat.le_of_ble_eq_true rfl) (Nat.le_of_ble_eq_true rfl) (Nat.le_of_ble_eq_true rfl) dX13_addOrder_1 rfl (fun s2 h => ?_)
  refine g_aload_n (np := 5) B.1 dX13_addOrder_4 rfl rfl ?_
  refine g_aload_n (np := 6) B.1 dX13_addOrder_5 rfl rfl ?_
  refine g_iload_n (np := 7) B.1 dX13_addOrder_6 rfl rfl ?_
  refine g_iload_n (np := 8) B.1 dX13_addOrder_7 rfl rfl ?_
  refine gc_YModel_100 (np := 11) B   (oX13_opens B.1.tr   a1 a2  _ _ _ h) (Nat.le_of_ble_eq_true rfl) (Nat.le_of_ble_eq_true rfl) (Nat.le_of_ble_eq_true rfl) (Nat.le_of_ble_eq_true rfl) (Nat.le_of_ble_eq_true rfl) dX13_addOrder_8 rfl (fun r3 s4 h => ?_)
  refine gc_YModel_76 (np := 14) B   (oX13_ends B.1.tr   r3  _ _ _ h) (Nat.le_of_ble_eq_true rfl) (Nat.le_of_ble_eq_true rfl) (Nat.le_of_ble_eq_true rfl) (Nat.le_of_ble_eq_true rfl) (Nat.le_of_ble_eq_true rfl) dX13_addOrder_11 rfl (fun r5 s6 h => ?_)
  exact g_iret B (ty := .int) rfl rfl (Nat.le_of_ble_eq_true rfl) (Nat.le_of_ble_eq_true rfl) dX13_addOrder_14 ⟨_, rfl, h⟩
def wX13_cancels  (a1 : Int32) (s0 : Mem) (Q : Int32 → Mem → Prop) (E : String → Mem → Prop) : Prop := wX13_order  a1 s0 (fun (r1 : Int32) (s2 : Mem) => ((0 ≤ r1 → wX13_isThrown  0 1 s2 (fun (r3 : Int32) (s4 : Mem) => ((r3 = 0 → wX13_closes  (54 + (3 * r1)) 3 78 s4 (fun (s6 : Mem) => ∀ s7 : Mem, s7 = wr s6 10 8 12 ((rd s6 10 8 12) - 1) → Q (rd s7 10 8 12) s7) E) ∧ (¬ r3 = 0 → Q 0 s4))) E) ∧ (¬ 0 ≤ r1 → wX13_isThrown  1 1 s2 (fun (r8 : Int32) (s9 : Mem) => ((r8 = 0 → wX13_closes  (54 + (3 * r1)) 3 78 s9 (fun (s11 : Mem) => ∀ s12 : Mem, s12 = wr s11 10 8 12 ((rd s11 10 8 12) - 1) → Q (rd s12 10 8 12) s12) E) ∧ (¬ r8 = 0 → Q 0 s9))) E))) E
set_option maxRecDepth 20000 in
set_option maxHeartbeats 4000000 in
theorem oX13_cancels {l : Launch} {x : Ctx} (hl : l.stackTraces = false)   (a1 : Int32)  (s0 : Mem) (Q : Int32 → Mem → Prop) (E : String → Mem → Prop) (h : wX13_cancels  a1 s0 Q E) : MetG l x yX13_cancels cX13_cancels 3 (some .int) 2 44 0 0 [.ref (xad x 15 0), .int a1] s0 (RI Q) E := by
  refine MetG.of hl (by decide) (Nat.le_of_ble_eq_true rfl) [some (.ref (xad x 15 0)), some (.int a1), none] rfl (fun K B hx _ => ?_)
  subst hx
  unfold wX13_cancels at h
  refine g_aload_n (np := 1) B.1 dX13_cancels_0 rfl rfl ?_
  refine g_iload_n (np := 2) B.1 dX13_cancels_1 rfl rfl ?_
  refine gc_YModel_103 (np := 5) B   (oX13_order B.1.tr   a1  _ _ _ h) (Nat.le_of_ble_eq_true rfl) (Nat.le_of_ble_eq_true rfl) (Nat.le_of_ble_eq_true rfl) (Nat.le_of_ble_eq_true rfl) (Nat.le_of_ble_eq_true rfl) dX13_cancels_2 rfl (fun r1 s2 h => ?_)
  refine g_istore_n (np := 6) (lv' := [some (.ref (xad (fX K) 15 0)), some (.int a1), some (.int r1)]) B.1 dX13_cancels_5 (by decide) rfl rfl rfl ?_
  refine g_aload_n (np := 7) B.1 dX13_cancels_6 rfl rfl ?_
  refine g_iload_n (np := 8) B.1 dX13_cancels_7 rfl rfl ?_
  refine g_if_ge (np := 11) (tgt := 15) B.1 dX13_cancels_8 (by decide) rfl (fun q => ?_) (fun q => ?_)
  · replace h := h.1 q
    refine g_iconst (np := 16) (v := 0) B.1 dX13_cancels_15 (by decide) rfl ?_
    refine g_iconst (np := 17) (v := 1) B.1 dX13_cancels_16 (by decide) rfl ?_
    refine gc_YModel_65 (np := 20) B   (oX13_isThrown B.1.tr   0 1  _ _ _ h) (Nat.le_of_ble_eq_true rfl) (Nat.le_of_ble_eq_true rfl) (Nat.le_of_ble_eq_true rfl) (Nat.le_of_ble_eq_true rfl) (Nat.le_of_ble_eq_true rfl) dX13_cancels_17 rfl (fun r3 s4 h => ?_)
    refine g_if_eq (np := 23) (tgt := 25) B.1 dX13_cancels_20 (by decide) rfl (fun q => ?_) (fun q => ?_)
    · replace h := h.1 q
      refine g_aload_n (np := 26) B.1 dX13_cancels_25 rfl rfl ?_
      refine g_bipush (np := 28) (v := 54) B.1 dX13_cancels_26 (by decide) rfl ?_
      refine g_iconst (np := 29) (v := 3) B.1 dX13_cancels_28 (by decide) rfl ?_
      refine g_iload_n (np := 30) B.1 dX13_cancels_29 rfl rfl ?_
      refine g_imul (np := 31) B.1 dX13_cancels_30 rfl ?_
      refine g_iadd (np := 32) B.1 dX13_cancels_31 rfl ?_
      refine g_iconst (np := 33) (v := 3) B.1 dX13_cancels_32 (by decide) rfl ?_
      refine g_bipush (np := 35) (v := 78) B.1 dX13_cancels_33 (by decide) rfl ?_
      refine gc_YModel_93 (np := 38) B   (oX13_closes B.1.tr   (54 + (3 * r1)) 3 78  _ _ _ h) (Nat.le_of_ble_eq_true rfl) (Nat.le_of_ble_eq_true rfl) (Nat.le_of_ble_eq_true rfl) (Nat.le_of_ble_eq_true rfl) (Nat.le_of_ble_eq_true rfl) dX13_cancels_35 rfl (fun s6 h => ?_)
      refine g_aload_n (np := 39) B.1 dX13_cancels_38 rfl rfl ?_
      refine gf_YModel_9_15 (np := 42) B.1 dX13_cancels_39 rfl ?_
      refine g_bipush (np := 44) (v := 12) B.1 dX13_cancels_42 (by decide) rfl ?_
      refine g_dup2 (np := 45) B.1 dX13_cancels_44 rfl rfl rfl ?_
      refine g_ialdL (np := 46) B.1 10 8 (by decide) rfl rfl 12 (by decide) (vpl (by decide)) dX13_cancels_45 rfl ?_
      refine g_iconst (np := 47) (v := 1) B.1 dX13_cancels_46 (by decide) rfl ?_
      refine g_isub (np := 48) B.1 dX13_cancels_47 rfl ?_
      refine g_iastL (np := 49) B.1 10 8 (by decide) rfl (fun _ _ => rfl) 12 (by decide) (vpl (by decide)) dX13_cancels_48 rfl ?_
      refine g_mem (fun s7 es7 => ?_)
      replace h := h s7 es7
      refine g_aload_n (np := 50) B.1 dX13_cancels_49 rfl rfl ?_
      refine gf_YModel_9_15 (np := 53) B.1 dX13_cancels_50 rfl ?_
      refine g_bipush (np := 55) (v := 12) B.1 dX13_cancels_53 (by decide) rfl ?_
      refine g_ialdL (np := 56) B.1 10 8 (by decide) rfl rfl 12 (by decide) (vpl (by decide)) dX13_cancels_55 rfl ?_
      exact g_iret B (ty := .int) rfl rfl (Nat.le_of_ble_eq_true rfl) (Nat.le_of_ble_eq_true rfl) dX13_cancels_56 ⟨_, rfl, h⟩
    · replace h := h.2 q
      refine g_iconst (np := 24) (v := 0) B.1 dX13_cancels_23 (by decide) rfl ?_
      exact g_iret B (ty := .int) rfl rfl (Nat.le_of_ble_eq_true rfl) (Nat.le_of_ble_eq_true rfl) dX13_cancels_24 ⟨_, rfl, h⟩
  · replace h := h.2 q
    refine g_iconst (np := 12) (v := 1) B.1 dX13_cancels_11 (by decide) rfl ?_
    refine g_goto (tgt := 16) B.1 dX13_cancels_12 (by decide) ?_
    refine g_iconst (np := 17) (v := 1) B.1 dX13_cancels_16 (by decide) rfl ?_
    refine gc_YModel_65 (np := 20) B   (oX13_isThrown B.1.tr   1 1  _ _ _ h) (Nat.le_of_ble_eq_true rfl) (Nat.le_of_ble_eq_true rfl) (Nat.le_of_ble_eq_true rfl) (Nat.le_of_ble_eq_true rfl) (Nat.le_of_ble_eq_true rfl) dX13_cancels_17 rfl (fun r8 s9 h => ?_)
    refine g_if_eq (np := 23) (tgt := 25) B.1 dX13_cancels_20 (by decide) rfl (fun q => ?_) (fun q => ?_)
    · replace h := h.1 q
      refine g_aload_n (np := 26) B.1 dX13_cancels_25 rfl rfl ?_
      refine g_bipush (np := 28) (v := 54) B.1 dX13_cancels_26 (by decide) rfl ?_
      refine g_iconst (np := 29) (v := 3) B.1 dX13_cancels_28 (by decide) rfl ?_
      refine g_iload_n (np := 30) B.1 dX13_cancels_29 rfl rfl ?_
      refine g_imul (np := 31) B.1 dX13_cancels_30 rfl ?_
      refine g_iadd (np := 32) B.1 dX13_cancels_31 rfl ?_
      refine g_iconst (np := 33) (v := 3) B.1 dX13_cancels_32 (by decide) rfl ?_
      refine g_bipush (np := 35) (v := 78) B.1 dX13_cancels_33 (by decide) rfl ?_
      refine gc_YModel_93 (np := 38) B   (oX13_closes B.1.tr   (54 + (3 * r1)) 3 78  _ _ _ h) (Nat.le_of_ble_eq_true rfl) (Nat.le_of_ble_eq_true rfl) (Nat.le_of_ble_eq_true rfl) (Nat.le_of_ble_eq_true rfl) (Nat.le_of_ble_eq_true rfl) dX13_cancels_35 rfl (fun s11 h => ?_)
      refine g_aload_n (np := 39) B.1 dX13_cancels_38 rfl rfl ?_
      refine gf_YModel_9_15 (np := 42) B.1 dX13_cancels_39 rfl ?_
      refine g_bipush (np := 44) (v := 12) B.1 dX13_cancels_42 (by decide) rfl ?_
      refine g_dup2 (np := 45) B.1 dX13_cancels_44 rfl rfl rfl ?_
      refine g_ialdL (np := 46) B.1 10 8 (by decide) rfl rfl 12 (by decide) (vpl (by decide)) dX13_cancels_45 rfl ?_
      refine g_iconst (np := 47) (v := 1) B.1 dX13_cancels_46 (by decide) rfl ?_
      refine g_isub (np := 48) B.1 dX13_cancels_47 rfl ?_
      refine g_iastL (np := 49) B.1 10 8 (by decide) rfl (fun _ _ => rfl) 12 (by decide) (vpl (by decide)) dX13_cancels_48 rfl ?_
      refine g_mem (fun s12 es12 => ?_)
      replace h := h s12 es12
      refine g_aload_n (np := 50) B.1 dX13_cancels_49 rfl rfl ?_
      refine gf_YModel_9_15 (np := 53) B.1 dX13_cancels_50 rfl ?_
      refine g_bipush (np := 55) (v := 12) B.1 dX13_cancels_53 (by decide) rfl ?_
      refine g_ialdL (np := 56) B.1 10 8 (by decide) rfl rfl 12 (by decide) (vpl (by decide)) dX13_cancels_55 rfl ?_
      exact g_iret B (ty := .int) rfl rfl (Nat.le_of_ble_eq_true rfl) (Nat.le_of_ble_eq_true rfl) dX13_cancels_56 ⟨_, rfl, h⟩
    · replace h := h.2 q
      refine g_iconst (np := 24) (v := 0) B.1 dX13_cancels_23 (by decide) rfl ?_
      exact g_iret B (ty := .int) rfl rfl (Nat.le_of_ble_eq_true rfl) (Nat.le_of_ble_eq_true rfl) dX13_cancels_24 ⟨_, rfl, h⟩
def wX13_cancelOrder  (a1 : Int32) (s0 : Mem) (Q : Int32 → Mem → Prop) (E : String → Mem → Prop) : Prop := wX13_keeps   s0 (fun (s2 : Mem) => wX13_cancels  a1 s2 (fun (r3 : Int32) (s4 : Mem) => wX13_ends  r3 s4 (fun (r5 : Int32) (s6 : Mem) => Q r5 s6) E) E) E
set_option maxRecDepth 20000 in
set_option maxHeartbeats 4000000 in
theorem oX13_cancelOrder {l : Launch} {x : Ctx} (hl : l.stackTraces = false)   (a1 : Int32)  (s0 : Mem) (Q : Int32 → Mem → Prop) (E : String → Mem → Prop) (h : wX13_cancelOrder  a1 s0 Q E) : MetG l x yX13_cancelOrder cX13_cancelOrder 2 (some .int) 3 66 0 0 [.ref (xad x 15 0), .int a1] s0 (RI Q) E := by
  refine MetG.of hl (by decide) (Nat.le_of_ble_eq_true rfl) [some (.ref (xad x 15 0)), some (.int a1)] rfl (fun K B hx _ => ?_)
  subst hx
  unfold wX13_cancelOrder at h
  refine g_aload_n (np := 1) B.1 dX13_cancelOrder_0 rfl rfl ?_
  refine gc_YModel_69 (np := 4) B   (oX13_keeps B.1.tr     _ _ _ h) (Nat.le_of_ble_eq_true rfl) (Nat.le_of_ble_eq_true rfl) (Nat.le_of_ble_eq_true rfl) (Nat.le_of_ble_eq_true rfl) (Nat.le_of_ble_eq_true rfl) dX13_cancelOrder_1 rfl (fun s2 h => ?_)
  refine g_aload_n (np := 5) B.1 dX13_cancelOrder_4 rfl rfl ?_
  refine g_aload_n (np := 6) B.1 dX13_cancelOrder_5 rfl rfl ?_
  refine g_iload_n (np := 7) B.1 dX13_cancelOrder_6 rfl rfl ?_
  refine gc_YModel_106 (np := 10) B   (oX13_cancels B.1.tr   a1  _ _ _ h) (Nat.le_of_ble_eq_true rfl) (Nat.le_of_ble_eq_true rfl) (Nat.le_of_ble_eq_true rfl) (Nat.le_of_ble_eq_true rfl) (Nat.le_of_ble_eq_true rfl) dX13_cancelOrder_7 rfl (fun r3 s4 h => ?_)
  refine gc_YModel_76 (np := 13) B   (oX13_ends B.1.tr   r3  _ _ _ h) (Nat.le_of_ble_eq_true rfl) (Nat.le_of_ble_eq_true rfl) (Nat.le_of_ble_eq_true rfl) (Nat.le_of_ble_eq_true rfl) (Nat.le_of_ble_eq_true rfl) dX13_cancelOrder_10 rfl (fun r5 s6 h => ?_)
  exact g_iret B (ty := .int) rfl rfl (Nat.le_of_ble_eq_true rfl) (Nat.le_of_ble_eq_true rfl) dX13_cancelOrder_13 ⟨_, rfl, h⟩
def wX13_has  (a1 : Int32) (s0 : Mem) (Q : Int32 → Mem → Prop) (E : String → Mem → Prop) : Prop := wX13_isIn  a1 1 3 s0 (fun (r1 : Int32) (s2 : Mem) => ((¬ r1 = 0 → wX13_isThrown  0 1 s2 (fun (r3 : Int32) (s4 : Mem) => ((r3 = 0 → ∀ v2_5 : Int32, v2_5 = (rd s4 10 8 3) → ∀ s6 : Mem, s6 = wr s4 10 8 3 a1 → Q v2_5 s6) ∧ (¬ r3 = 0 → Q 0 s4))) E) ∧ (r1 = 0 → wX13_isThrown  1 1 s2 (fun (r7 : Int32) (s8 : Mem) => ((r7 = 0 → ∀ v2_9 : Int32, v2_9 = (rd s8 10 8 3) → ∀ s10 : Mem, s10 = wr s8 10 8 3 a1 → Q v2_9 s10) ∧ (¬ r7 = 0 → Q 0 s8))) E))) E
set_option maxRecDepth 20000 in
set_option maxHeartbeats 4000000 in
theorem oX13_has {l : Launch} {x : Ctx} (hl : l.stackTraces = false)   (a1 : Int32)  (s0 : Mem) (Q : Int32 → Mem → Prop) (E : String → Mem → Prop) (h : wX13_has  a1 s0 Q E) : MetG l x yX13_has cX13_has 3 (some .int) 1 22 0 0 [.ref (xad x 15 0), .int a1] s0 (RI Q) E := by
  refine MetG.of hl (by decide) (Nat.le_of_ble_eq_true rfl) [some (.ref (xad x 15 0)), some (.int a1), none] rfl (fun K B hx _ => ?_)
  subst hx
  unfold wX13_has at h
  refine g_aload_n (np := 1) B.1 dX13_has_0 rfl rfl ?_
  refine g_iload_n (np := 2) B.1 dX13_has_1 rfl rfl ?_
  refine g_iconst (np := 3) (v := 1) B.1 dX13_has_2 (by decide) rfl ?_
  refine g_iconst (np := 4) (v := 3) B.1 dX13_has_3 (by decide) rfl ?_
  refine gc_YModel_61 (np := 7) B   (oX13_isIn B.1.tr   a1 1 3  _ _ _ h) (Nat.le_of_ble_eq_true rfl) (Nat.le_of_ble_eq_true rfl) (Nat.le_of_ble_eq_true rfl) (Nat.le_of_ble_eq_true rfl) (Nat.le_of_ble_eq_true rfl) dX13_has_4 rfl (fun r1 s2 h => ?_)
  refine g_if_ne (np := 10) (tgt := 14) B.1 dX13_has_7 (by decide) rfl (fun q => ?_) (fun q => ?_)
  · replace h := h.1 q
    refine g_iconst (np := 15) (v := 0) B.1 dX13_has_14 (by decide) rfl ?_
    refine g_iconst (np := 16) (v := 1) B.1 dX13_has_15 (by decide) rfl ?_
    refine gc_YModel_65 (np := 19) B   (oX13_isThrown B.1.tr   0 1  _ _ _ h) (Nat.le_of_ble_eq_true rfl) (Nat.le_of_ble_eq_true rfl) (Nat.le_of_ble_eq_true rfl) (Nat.le_of_ble_eq_true rfl) (Nat.le_of_ble_eq_true rfl) dX13_has_16 rfl (fun r3 s4 h => ?_)
    refine g_if_eq (np := 22) (tgt := 24) B.1 dX13_has_19 (by decide) rfl (fun q => ?_) (fun q => ?_)
    · replace h := h.1 q
      refine g_aload_n (np := 25) B.1 dX13_has_24 rfl rfl ?_
      refine gf_YModel_9_15 (np := 28) B.1 dX13_has_25 rfl ?_
      refine g_iconst (np := 29) (v := 3) B.1 dX13_has_28 (by decide) rfl ?_
      refine g_ialdL (np := 30) B.1 10 8 (by decide) rfl rfl 3 (by decide) (vpl (by decide)) dX13_has_29 rfl ?_
      refine g_topi (fun v2_5 ev2_5 => ?_)
      replace h := h v2_5 ev2_5
      refine g_istore_n (np := 31) (lv' := [some (.ref (xad (fX K) 15 0)), some (.int a1), some (.int v2_5)]) B.1 dX13_has_30 (by decide) rfl rfl rfl ?_
      refine g_aload_n (np := 32) B.1 dX13_has_31 rfl rfl ?_
      refine gf_YModel_9_15 (np := 35) B.1 dX13_has_32 rfl ?_
      refine g_iconst (np := 36) (v := 3) B.1 dX13_has_35 (by decide) rfl ?_
      refine g_iload_n (np := 37) B.1 dX13_has_36 rfl rfl ?_
      refine g_iastL (np := 38) B.1 10 8 (by decide) rfl (fun _ _ => rfl) 3 (by decide) (vpl (by decide)) dX13_has_37 rfl ?_
      refine g_mem (fun s6 es6 => ?_)
      replace h := h s6 es6
      refine g_iload_n (np := 39) B.1 dX13_has_38 rfl rfl ?_
      exact g_iret B (ty := .int) rfl rfl (Nat.le_of_ble_eq_true rfl) (Nat.le_of_ble_eq_true rfl) dX13_has_39 ⟨_, rfl, h⟩
    · replace h := h.2 q
      refine g_iconst (np := 23) (v := 0) B.1 dX13_has_22 (by decide) rfl ?_
      exact g_iret B (ty := .int) rfl rfl (Nat.le_of_ble_eq_true rfl) (Nat.le_of_ble_eq_true rfl) dX13_has_23 ⟨_, rfl, h⟩
  · replace h := h.2 q
    refine g_iconst (np := 11) (v := 1) B.1 dX13_has_10 (by decide) rfl ?_
    refine g_goto (tgt := 15) B.1 dX13_has_11 (by decide) ?_
    refine g_iconst (np := 16) (v := 1) B.1 dX13_has_15 (by decide) rfl ?_
    refine gc_YModel_65 (np := 19) B   (oX13_isThrown B.1.tr   1 1  _ _ _ h) (Nat.le_of_ble_eq_true rfl) (Nat.le_of_ble_eq_true rfl) (Nat.le_of_ble_eq_true rfl) (Nat.le_of_ble_eq_true rfl) (Nat.le_of_ble_eq_true rfl) dX13_has_16 rfl (fun r7 s8 h => ?_)
    refine g_if_eq (np := 22) (tgt := 24) B.1 dX13_has_19 (by decide) rfl (fun q => ?_) (fun q => ?_)
    · replace h := h.1 q
      refine g_aload_n (np := 25) B.1 dX13_has_24 rfl rfl ?_
      refine gf_YModel_9_15 (np := 28) B.1 dX13_has_25 rfl ?_
      refine g_iconst (np := 29) (v := 3) B.1 dX13_has_28 (by decide) rfl ?_
      refine g_ialdL (np := 30) B.1 10 8 (by decide) rfl rfl 3 (by decide) (vpl (by decide)) dX13_has_29 rfl ?_
      refine g_topi (fun v2_9 ev2_9 => ?_)
      replace h := h v2_9 ev2_9
      refine g_istore_n (np := 31) (lv' := [some (.ref (xad (fX K) 15 0)), some (.int a1), some (.int v2_9)]) B.1 dX13_has_30 (by decide) rfl rfl rfl ?_
      refine g_aload_n (np := 32) B.1 dX13_has_31 rfl rfl ?_
      refine gf_YModel_9_15 (np := 35) B.1 dX13_has_32 rfl ?_
      refine g_iconst (np := 36) (v := 3) B.1 dX13_has_35 (by decide) rfl ?_
      refine g_iload_n (np := 37) B.1 dX13_has_36 rfl rfl ?_
      refine g_iastL (np := 38) B.1 10 8 (by decide) rfl (fun _ _ => rfl) 3 (by decide) (vpl (by decide)) dX13_has_37 rfl ?_
      refine g_mem (fun s10 es10 => ?_)
      replace h := h s10 es10
      refine g_iload_n (np := 39) B.1 dX13_has_38 rfl rfl ?_
      exact g_iret B (ty := .int) rfl rfl (Nat.le_of_ble_eq_true rfl) (Nat.le_of_ble_eq_true rfl) dX13_has_39 ⟨_, rfl, h⟩
    · replace h := h.2 q
      refine g_iconst (np := 23) (v := 0) B.1 dX13_has_22 (by decide) rfl ?_
      exact g_iret B (ty := .int) rfl rfl (Nat.le_of_ble_eq_true rfl) (Nat.le_of_ble_eq_true rfl) dX13_has_23 ⟨_, rfl, h⟩
def wX13_setMachines  (a1 : Int32) (s0 : Mem) (Q : Int32 → Mem → Prop) (E : String → Mem → Prop) : Prop := wX13_keeps   s0 (fun (s2 : Mem) => wX13_has  a1 s2 (fun (r3 : Int32) (s4 : Mem) => wX13_ends  r3 s4 (fun (r5 : Int32) (s6 : Mem) => Q r5 s6) E) E) E
set_option maxRecDepth 20000 in
set_option maxHeartbeats 4000000 in
theorem oX13_setMachines {l : Launch} {x : Ctx} (hl : l.stackTraces = false)   (a1 : Int32)  (s0 : Mem) (Q : Int32 → Mem → Prop) (E : String → Mem → Prop) (h : wX13_setMachines  a1 s0 Q E) : MetG l x yX13_setMachines cX13_setMachines 2 (some .int) 2 46 0 0 [.ref (xad x 15 0), .int a1] s0 (RI Q) E := by
  refine MetG.of hl (by decide) (Nat.le_of_ble_eq_true rfl) [some (.ref (xad x 15 0)), some (.int a1)] rfl (fun K B hx _ => ?_)
  subst hx
  unfold wX13_setMachines at h
  refine g_aload_n (np := 1) B.1 dX13_setMachines_0 rfl rfl ?_
  refine gc_YModel_69 (np := 4) B   (oX13_keeps B.1.tr     _ _ _ h) (Nat.le_of_ble_eq_true rfl) (Nat.le_of_ble_eq_true rfl) (Nat.le_of_ble_eq_true rfl) (Nat.le_of_ble_eq_true rfl) (Nat.le_of_ble_eq_true rfl) dX13_setMachines_1 rfl (fun s2 h => ?_)
  refine g_aload_n (np := 5) B.1 dX13_setMachines_4 rfl rfl ?_
  refine g_aload_n (np := 6) B.1 dX13_setMachines_5 rfl rfl ?_
  refine g_iload_n (np := 7) B.1 dX13_setMachines_6 rfl rfl ?_
  refine gc_YModel_109 (np := 10) B   (oX13_has B.1.tr   a1  _ _ _ h) (Nat.le_of_ble_eq_true rfl) (Nat.le_of_ble_eq_true rfl) (Nat.le_of_ble_eq_true rfl) (Nat.le_of_ble_eq_true rfl) (Nat.le_of_ble_eq_true rfl) dX13_setMachines_7 rfl (fun r3 s4 h => ?_)
  refine gc_YModel_76 (np := 13) B   (oX13_ends B.1.tr   r3  _ _ _ h) (Nat.le_of_ble_eq_true rfl) (Nat.le_of_ble_eq_true rfl) (Nat.le_of_ble_eq_true rfl) (Nat.le_of_ble_eq_true rfl) (Nat.le_of_ble_eq_true rfl) dX13_setMachines_10 rfl (fun r5 s6 h => ?_)
  exact g_iret B (ty := .int) rfl rfl (Nat.le_of_ble_eq_true rfl) (Nat.le_of_ble_eq_true rfl) dX13_setMachines_13 ⟨_, rfl, h⟩
def wX13_pieces  (a1 : Int32) (s0 : Mem) (Q : Int32 → Mem → Prop) (E : String → Mem → Prop) : Prop := wX13_ofOrder  a1 2 s0 (fun (r1 : Int32) (s2 : Mem) => ∀ v2_3 : Int32, v2_3 = (3 + r1) → wX13_ofOrder  a1 1 s2 (fun (r4 : Int32) (s5 : Mem) => (¬ v2_3 = 0) ∧ Q (((r4 + v2_3) - 1) / v2_3) s5) E) E
set_option maxRecDepth 20000 in
set_option maxHeartbeats 4000000 in
theorem oX13_pieces {l : Launch} {x : Ctx} (hl : l.stackTraces = false)   (a1 : Int32)  (s0 : Mem) (Q : Int32 → Mem → Prop) (E : String → Mem → Prop) (h : wX13_pieces  a1 s0 Q E) : MetG l x yX13_pieces cX13_pieces 3 (some .int) 1 22 0 0 [.ref (xad x 15 0), .int a1] s0 (RI Q) E := by
  refine MetG.of hl (by decide) (Nat.le_of_ble_eq_true rfl) [some (.ref (xad x 15 0)), some (.int a1), none] rfl (fun K B hx _ => ?_)
  subst hx
  unfold wX13_pieces at h
  refine g_iconst (np := 1) (v := 3) B.1 dX13_pieces_0 (by decide) rfl ?_
  refine g_aload_n (np := 2) B.1 dX13_pieces_1 rfl rfl ?_
  refine g_iload_n (np := 3) B.1 dX13_pieces_2 rfl rfl ?_
  refine g_iconst (np := 4) (v := 2) B.1 dX13_pieces_3 (by decide) rfl ?_
  refine gc_YModel_58 (np := 7) B   (oX13_ofOrder B.1.tr   a1 2  _ _ _ h) (Nat.le_of_ble_eq_true rfl) (Nat.le_of_ble_eq_true rfl) (Nat.le_of_ble_eq_true rfl) (Nat.le_of_ble_eq_true rfl) (Nat.le_of_ble_eq_true rfl) dX13_pieces_4 rfl (fun r1 s2 h => ?_)
  refine g_iadd (np := 8) B.1 dX13_pieces_7 rfl ?_
  refine g_topi (fun v2_3 ev2_3 => ?_)
  replace h := h v2_3 ev2_3
  refine g_istore_n (np := 9) (lv' := [some (.ref (xad (fX K) 15 0)), some (.int a1), some (.int v2_3)]) B.1 dX13_pieces_8 (by decide) rfl rfl rfl ?_
  refine g_aload_n (np := 10) B.1 dX13_pieces_9 rfl rfl ?_
  refine g_iload_n (np := 11) B.1 dX13_pieces_10 rfl rfl ?_
  refine g_iconst (np := 12) (v := 1) B.1 dX13_pieces_11 (by decide) rfl ?_
  refine gc_YModel_58 (np := 15) B   (oX13_ofOrder B.1.tr   a1 1  _ _ _ h) (Nat.le_of_ble_eq_true rfl) (Nat.le_of_ble_eq_true rfl) (Nat.le_of_ble_eq_true rfl) (Nat.le_of_ble_eq_true rfl) (Nat.le_of_ble_eq_true rfl) dX13_pieces_12 rfl (fun r4 s5 h => ?_)
  refine g_iload_n (np := 16) B.1 dX13_pieces_15 rfl rfl ?_
  refine g_iadd (np := 17) B.1 dX13_pieces_16 rfl ?_
  refine g_iconst (np := 18) (v := 1) B.1 dX13_pieces_17 (by decide) rfl ?_
  refine g_isub (np := 19) B.1 dX13_pieces_18 rfl ?_
  refine g_iload_n (np := 20) B.1 dX13_pieces_19 rfl rfl ?_
  refine g_idiv (np := 21) B.1 dX13_pieces_20 h.1 rfl ?_
  replace h := h.2
  exact g_iret B (ty := .int) rfl rfl (Nat.le_of_ble_eq_true rfl) (Nat.le_of_ble_eq_true rfl) dX13_pieces_21 ⟨_, rfl, h⟩
def wX13_spins_146   (Q : Int32 → Mem → Prop) (E : String → Mem → Prop)  (X214 : Int32 → Int32 → Mem → Prop) : Nat → Int32 → Int32 → Int32 → Int32 → Int32 → Mem → Prop
  | 0, _, _, _, _, _, _ => False
  | n146 + 1, v2, v4, v5, v6, v7, s0 => ((v5 ≤ v7 → X214 v2 v5 s0) ∧ (¬ v5 ≤ v7 → ((3 + v4 ≤ v6 → ∀ v8_22 : Int32, v8_22 = (3 + v4) → vp_in (78 + (rd s0 10 8 13)) (iaLen 8) ∧ ∀ s23 : Mem, s23 = wr s0 10 8 (78 + (rd s0 10 8 13)).toNatClampNeg v8_22 → ∀ s24 : Mem, s24 = wr s23 10 8 13 ((rd s23 10 8 13) + 1) → ∀ v6_25 : Int32, v6_25 = (v6 - v8_22) → ∀ v7_26 : Int32, v7_26 = (v7 + 1) → wX13_spins_146   Q E X214 n146 v2 v4 v5 v6_25 v7_26 s24) ∧ (¬ 3 + v4 ≤ v6 → vp_in (78 + (rd s0 10 8 13)) (iaLen 8) ∧ ∀ s27 : Mem, s27 = wr s0 10 8 (78 + (rd s0 10 8 13)).toNatClampNeg v6 → ∀ s28 : Mem, s28 = wr s27 10 8 13 ((rd s27 10 8 13) + 1) → ∀ v6_29 : Int32, v6_29 = (v6 - v6) → ∀ v7_30 : Int32, v7_30 = (v7 + 1) → wX13_spins_146   Q E X214 n146 v2 v4 v5 v6_29 v7_30 s28))))
def wX13_spins_75   (Q : Int32 → Mem → Prop) (E : String → Mem → Prop)   : Int32 → Int32 → Mem → Prop := fun v2 z0 s0 => wX13_isThrown  z0 3 s0 (fun (r11 : Int32) (s12 : Mem) => ((r11 = 0 → wX13_ofOrder  v2 1 s12 (fun (r13 : Int32) (s14 : Mem) => wX13_ofOrder  v2 2 s14 (fun (r15 : Int32) (s16 : Mem) => wX13_pieces  v2 s16 (fun (r17 : Int32) (s18 : Mem) => ∀ s19 : Mem, s19 = wr s18 10 8 1 ((rd s18 10 8 1) - r13) → ∀ s20 : Mem, s20 = wr s19 10 8 2 ((rd s19 10 8 2) + (r13 * r15)) → ∀ s21 : Mem, s21 = wr s20 10 8 6 ((rd s20 10 8 6) + r13) → ∃ m37 : Nat, wX13_spins_146   Q E (fun (x2_31 : Int32) (x5_32 : Int32) (s33 : Mem) => wX13_closes  (54 + (3 * x2_31)) 3 78 s33 (fun (s35 : Mem) => ∀ s36 : Mem, s36 = wr s35 10 8 12 ((rd s35 10 8 12) - 1) → Q x5_32 s36) E) m37 v2 r15 r17 r13 0  s21) E) E) E) ∧ (¬ r11 = 0 → Q 0 s12))) E
def wX13_spins_44   (Q : Int32 → Mem → Prop) (E : String → Mem → Prop)   : Int32 → Int32 → Mem → Prop := fun v2 z0 s0 => wX13_isThrown  z0 2 s0 (fun (r7 : Int32) (s8 : Mem) => ((¬ r7 = 0 → Q 0 s8) ∧ (r7 = 0 → wX13_pieces  v2 s8 (fun (r9 : Int32) (s10 : Mem) => (((rd s8 10 8 13) + r9 ≤ 12 → wX13_spins_75   Q E  v2 0 s10) ∧ (¬ (rd s8 10 8 13) + r9 ≤ 12 → wX13_spins_75   Q E  v2 1 s10))) E))) E
def wX13_spins_16   (Q : Int32 → Mem → Prop) (E : String → Mem → Prop)   : Int32 → Int32 → Mem → Prop := fun v2 z0 s0 => wX13_isThrown  z0 1 s0 (fun (r3 : Int32) (s4 : Mem) => ((¬ r3 = 0 → Q 0 s4) ∧ (r3 = 0 → wX13_ofOrder  v2 1 s4 (fun (r5 : Int32) (s6 : Mem) => ((r5 ≤ rd s4 10 8 1 → wX13_spins_44   Q E  v2 0 s6) ∧ (¬ r5 ≤ rd s4 10 8 1 → wX13_spins_44   Q E  v2 1 s6))) E))) E
def wX13_spins  (a1 : Int32) (s0 : Mem) (Q : Int32 → Mem → Prop) (E : String → Mem → Prop) : Prop := wX13_order  a1 s0 (fun (r1 : Int32) (s2 : Mem) => ((0 ≤ r1 → wX13_spins_16   Q E  r1 0 s2) ∧ (¬ 0 ≤ r1 → wX13_spins_16   Q E  r1 1 s2))) E
set_option maxRecDepth 20000 in
set_option maxHeartbeats 4000000 in
theorem oX13_spins_146 {K : Fr} {Q : Int32 → Mem → Prop} {E : String → Mem → Prop} (B : Bd K cX13_spins "YarnMillModel" 9 (some .int) 2 44 0 0 (RI Q) E)    {X214 : Int32 → Int32 → Mem → Prop} {cells slots : Nat} (hX214 : ∀ (y2 : Int32) (y5 : Int32) (τ : Mem), X214 y2 y5 τ → Go K cells slots τ 214 [some (.ref (xad (fX K) 15 0)), none, some (.int y2), none, none, some (.int y5), none, none, none] ([])) (hc : cells ≤ 0) (hs : slots ≤ 0) : ∀ (n : Nat) (v2 : Int32) (v4 : Int32) (v5 : Int32) (v6 : Int32) (v7 : Int32) (s0 : Mem), wX13_spins_146   Q E X214 n v2 v4 v5 v6 v7 s0 → Go K cells slots s0 146 [some (.ref (xad (fX K) 15 0)), none, some (.int v2), none, some (.int v4), some (.int v5), some (.int v6), some (.int v7), none] ([]) := by
  intro n
  induction n with
  | zero => intro v2 v4 v5 v6 v7 s0 h; exact absurd h (by simp [wX13_spins_146])
  | succ n ih =>
    intro v2 v4 v5 v6 v7 s0 h
    simp only [wX13_spins_146] at h
    refine g_iload (np := 148) B.1 dX13_spins_146 rfl rfl ?_
    refine g_iload (np := 150) B.1 dX13_spins_148 rfl rfl ?_
    refine g_icmp_ge (np := 153) (tgt := 214) B.1 dX13_spins_150 (by decide) rfl (fun q => ?_) (fun q => ?_)
    · replace h := h.1 q
      refine Go.lle [some (.ref (xad (fX K) 15 0)), none, some (.int v2), none, none, some (.int v5), none, none, none] (by simp [lle]) ?_
      exact hX214 v2 v5 s0 h
    · replace h := h.2 q
      refine g_iload (np := 155) B.1 dX13_spins_153 rfl rfl ?_
      refine g_iconst (np := 156) (v := 3) B.1 dX13_spins_155 (by decide) rfl ?_
      refine g_iload (np := 158) B.1 dX13_spins_156 rfl rfl ?_
      refine g_iadd (np := 159) B.1 dX13_spins_158 rfl ?_
      refine g_icmp_ge (np := 162) (tgt := 167) B.1 dX13_spins_159 (by decide) rfl (fun q => ?_) (fun q => ?_)
      · replace h := h.1 q
        refine g_iconst (np := 168) (v := 3) B.1 dX13_spins_167 (by decide) rfl ?_
        refine g_iload (np := 170) B.1 dX13_spins_168 rfl rfl ?_
        refine g_iadd (np := 171) B.1 dX13_spins_170 rfl ?_
        refine g_topi (fun v8_22 ev8_22 => ?_)
        replace h := h v8_22 ev8_22
        refine g_istore (np := 173) (lv' := [some (.ref (xad (fX K) 15 0)), none, some (.int v2), none, some (.int v4), some (.int v5), some (.int v6), some (.int v7), some (.int v8_22)]) B.1 dX13_spins_171 (by decide) rfl rfl rfl ?_
        refine g_aload_n (np := 174) B.1 dX13_spins_173 rfl rfl ?_
        refine gf_YModel_9_15 (np := 177) B.1 dX13_spins_174 rfl ?_
        refine g_bipush (np := 179) (v := 78) B.1 dX13_spins_177 (by decide) rfl ?_
        refine g_aload_n (np := 180) B.1 dX13_spins_179 rfl rfl ?_
        refine gf_YModel_9_15 (np := 183) B.1 dX13_spins_180 rfl ?_
        refine g_bipush (np := 185) (v := 13) B.1 dX13_spins_183 (by decide) rfl ?_
        refine g_ialdL (np := 186) B.1 10 8 (by decide) rfl rfl 13 (by decide) (vpl (by decide)) dX13_spins_185 rfl ?_
        refine g_iadd (np := 187) B.1 dX13_spins_186 rfl ?_
        refine g_iload (np := 189) B.1 dX13_spins_187 rfl rfl ?_
        refine g_iast (np := 190) B.1 10 8 (by decide) rfl (fun _ _ => rfl) h.1 dX13_spins_189 rfl ?_
        replace h := h.2
        refine g_mem (fun s23 es23 => ?_)
        replace h := h s23 es23
        refine g_aload_n (np := 191) B.1 dX13_spins_190 rfl rfl ?_
        refine gf_YModel_9_15 (np := 194) B.1 dX13_spins_191 rfl ?_
        refine g_bipush (np := 196) (v := 13) B.1 dX13_spins_194 (by decide) rfl ?_
        refine g_dup2 (np := 197) B.1 dX13_spins_196 rfl rfl rfl ?_
        refine g_ialdL (np := 198) B.1 10 8 (by decide) rfl rfl 13 (by decide) (vpl (by decide)) dX13_spins_197 rfl ?_
        refine g_iconst (np := 199) (v := 1) B.1 dX13_spins_198 (by decide) rfl ?_
        refine g_iadd (np := 200) B.1 dX13_spins_199 rfl ?_
        refine g_iastL (np := 201) B.1 10 8 (by decide) rfl (fun _ _ => rfl) 13 (by decide) (vpl (by decide)) dX13_spins_200 rfl ?_
        refine g_mem (fun s24 es24 => ?_)
        replace h := h s24 es24
        refine g_iload (np := 203) B.1 dX13_spins_201 rfl rfl ?_
        refine g_iload (np := 205) B.1 dX13_spins_203 rfl rfl ?_
        refine g_isub (np := 206) B.1 dX13_spins_205 rfl ?_
        refine g_topi (fun v6_25 ev6_25 => ?_)
        replace h := h v6_25 ev6_25
        refine g_istore (np := 208) (lv' := [some (.ref (xad (fX K) 15 0)), none, some (.int v2), none, some (.int v4), some (.int v5), some (.int v6_25), some (.int v7), some (.int v8_22)]) B.1 dX13_spins_206 (by decide) rfl rfl rfl ?_
        obtain ⟨v7_26, ev7_26⟩ : ∃ y : Int32, y = v7 + 1 := ⟨_, rfl⟩
        replace h := h v7_26 ev7_26
        refine g_iinc (np := 211) (v := v7_26) (lv' := [some (.ref (xad (fX K) 15 0)), none, some (.int v2), none, some (.int v4), some (.int v5), some (.int v6_25), some (.int v7_26), some (.int v8_22)]) B.1 dX13_spins_208 rfl (by rw [ev7_26]; rfl) (by decide) rfl rfl rfl ?_
        refine g_goto (tgt := 146) B.1 dX13_spins_211 (by decide) ?_
        refine Go.lle [some (.ref (xad (fX K) 15 0)), none, some (.int v2), none, some (.int v4), some (.int v5), some (.int v6_25), some (.int v7_26), none] (by simp [lle]) ?_
        exact ih v2 v4 v5 v6_25 v7_26 s24 h
      · replace h := h.2 q
        refine g_iload (np := 164) B.1 dX13_spins_162 rfl rfl ?_
        refine g_goto (tgt := 171) B.1 dX13_spins_164 (by decide) ?_
        refine g_istore (np := 173) (lv' := [some (.ref (xad (fX K) 15 0)), none, some (.int v2), none, some (.int v4), some (.int v5), some (.int v6), some (.int v7), some (.int v6)]) B.1 dX13_spins_171 (by decide) rfl rfl rfl ?_
        refine g_aload_n (np := 174) B.1 dX13_spins_173 rfl rfl ?_
        refine gf_YModel_9_15 (np := 177) B.1 dX13_spins_174 rfl ?_
        refine g_bipush (np := 179) (v := 78) B.1 dX13_spins_177 (by decide) rfl ?_
        refine g_aload_n (np := 180) B.1 dX13_spins_179 rfl rfl ?_
        refine gf_YModel_9_15 (np := 183) B.1 dX13_spins_180 rfl ?_
        refine g_bipush (np := 185) (v := 13) B.1 dX13_spins_183 (by decide) rfl ?_
        refine g_ialdL (np := 186) B.1 10 8 (by decide) rfl rfl 13 (by decide) (vpl (by decide)) dX13_spins_185 rfl ?_
        refine g_iadd (np := 187) B.1 dX13_spins_186 rfl ?_
        refine g_iload (np := 189) B.1 dX13_spins_187 rfl rfl ?_
        refine g_iast (np := 190) B.1 10 8 (by decide) rfl (fun _ _ => rfl) h.1 dX13_spins_189 rfl ?_
        replace h := h.2
        refine g_mem (fun s27 es27 => ?_)
        replace h := h s27 es27
        refine g_aload_n (np := 191) B.1 dX13_spins_190 rfl rfl ?_
        refine gf_YModel_9_15 (np := 194) B.1 dX13_spins_191 rfl ?_
        refine g_bipush (np := 196) (v := 13) B.1 dX13_spins_194 (by decide) rfl ?_
        refine g_dup2 (np := 197) B.1 dX13_spins_196 rfl rfl rfl ?_
        refine g_ialdL (np := 198) B.1 10 8 (by decide) rfl rfl 13 (by decide) (vpl (by decide)) dX13_spins_197 rfl ?_
        refine g_iconst (np := 199) (v := 1) B.1 dX13_spins_198 (by decide) rfl ?_
        refine g_iadd (np := 200) B.1 dX13_spins_199 rfl ?_
        refine g_iastL (np := 201) B.1 10 8 (by decide) rfl (fun _ _ => rfl) 13 (by decide) (vpl (by decide)) dX13_spins_200 rfl ?_
        refine g_mem (fun s28 es28 => ?_)
        replace h := h s28 es28
        refine g_iload (np := 203) B.1 dX13_spins_201 rfl rfl ?_
        refine g_iload (np := 205) B.1 dX13_spins_203 rfl rfl ?_
        refine g_isub (np := 206) B.1 dX13_spins_205 rfl ?_
        refine g_topi (fun v6_29 ev6_29 => ?_)
        replace h := h v6_29 ev6_29
        refine g_istore (np := 208) (lv' := [some (.ref (xad (fX K) 15 0)), none, some (.int v2), none, some (.int v4), some (.int v5), some (.int v6_29), some (.int v7), some (.int v6)]) B.1 dX13_spins_206 (by decide) rfl rfl rfl ?_
        obtain ⟨v7_30, ev7_30⟩ : ∃ y : Int32, y = v7 + 1 := ⟨_, rfl⟩
        replace h := h v7_30 ev7_30
        refine g_iinc (np := 211) (v := v7_30) (lv' := [some (.ref (xad (fX K) 15 0)), none, some (.int v2), none, some (.int v4), some (.int v5), some (.int v6_29), some (.int v7_30), some (.int v6)]) B.1 dX13_spins_208 rfl (by rw [ev7_30]; rfl) (by decide) rfl rfl rfl ?_
        refine g_goto (tgt := 146) B.1 dX13_spins_211 (by decide) ?_
        refine Go.lle [some (.ref (xad (fX K) 15 0)), none, some (.int v2), none, some (.int v4), some (.int v5), some (.int v6_29), some (.int v7_30), none] (by simp [lle]) ?_
        exact ih v2 v4 v5 v6_29 v7_30 s28 h
set_option maxRecDepth 20000 in
set_option maxHeartbeats 4000000 in
theorem oX13_spins_75 {K : Fr} {Q : Int32 → Mem → Prop} {E : String → Mem → Prop} (B : Bd K cX13_spins "YarnMillModel" 9 (some .int) 2 44 0 0 (RI Q) E)     {cells slots : Nat}  (hc : cells ≤ 0) (hs : slots ≤ 0) : ∀ (v2 : Int32) (z0 : Int32) (s0 : Mem), wX13_spins_75   Q E  v2 z0 s0 → Go K cells slots s0 75 [some (.ref (xad (fX K) 15 0)), none, some (.int v2), none, none, none, none, none, none] (.int z0 :: .ref (xad (fX K) 15 0) :: []) := by
  intro v2 z0 s0 h
  unfold wX13_spins_75 at h
  refine g_iconst (np := 76) (v := 3) B.1 dX13_spins_75 (by decide) rfl ?_
  refine gc_YModel_65 (np := 79) B   (oX13_isThrown B.1.tr   z0 3  _ _ _ h) (Nat.le_of_ble_eq_true rfl) (Nat.le_of_ble_eq_true rfl) (Nat.le_of_ble_eq_true rfl) hc hs dX13_spins_76 rfl (fun r11 s12 h => ?_)
  refine g_if_eq (np := 82) (tgt := 84) B.1 dX13_spins_79 (by decide) rfl (fun q => ?_) (fun q => ?_)
  · replace h := h.1 q
    refine g_aload_n (np := 85) B.1 dX13_spins_84 rfl rfl ?_
    refine g_iload_n (np := 86) B.1 dX13_spins_85 rfl rfl ?_
    refine g_iconst (np := 87) (v := 1) B.1 dX13_spins_86 (by decide) rfl ?_
    refine gc_YModel_58 (np := 90) B   (oX13_ofOrder B.1.tr   v2 1  _ _ _ h) (Nat.le_of_ble_eq_true rfl) (Nat.le_of_ble_eq_true rfl) (Nat.le_of_ble_eq_true rfl) hc hs dX13_spins_87 rfl (fun r13 s14 h => ?_)
    refine g_istore_n (np := 91) (lv' := [some (.ref (xad (fX K) 15 0)), none, some (.int v2), some (.int r13), none, none, none, none, none]) B.1 dX13_spins_90 (by decide) rfl rfl rfl ?_
    refine g_aload_n (np := 92) B.1 dX13_spins_91 rfl rfl ?_
    refine g_iload_n (np := 93) B.1 dX13_spins_92 rfl rfl ?_
    refine g_iconst (np := 94) (v := 2) B.1 dX13_spins_93 (by decide) rfl ?_
    refine gc_YModel_58 (np := 97) B   (oX13_ofOrder B.1.tr   v2 2  _ _ _ h) (Nat.le_of_ble_eq_true rfl) (Nat.le_of_ble_eq_true rfl) (Nat.le_of_ble_eq_true rfl) hc hs dX13_spins_94 rfl (fun r15 s16 h => ?_)
    refine g_istore (np := 99) (lv' := [some (.ref (xad (fX K) 15 0)), none, some (.int v2), some (.int r13), some (.int r15), none, none, none, none]) B.1 dX13_spins_97 (by decide) rfl rfl rfl ?_
    refine g_aload_n (np := 100) B.1 dX13_spins_99 rfl rfl ?_
    refine g_iload_n (np := 101) B.1 dX13_spins_100 rfl rfl ?_
    refine gc_YModel_112 (np := 104) B   (oX13_pieces B.1.tr   v2  _ _ _ h) (Nat.le_of_ble_eq_true rfl) (Nat.le_of_ble_eq_true rfl) (Nat.le_of_ble_eq_true rfl) hc hs dX13_spins_101 rfl (fun r17 s18 h => ?_)
    refine g_istore (np := 106) (lv' := [some (.ref (xad (fX K) 15 0)), none, some (.int v2), some (.int r13), some (.int r15), some (.int r17), none, none, none]) B.1 dX13_spins_104 (by decide) rfl rfl rfl ?_
    refine g_aload_n (np := 107) B.1 dX13_spins_106 rfl rfl ?_
    refine gf_YModel_9_15 (np := 110) B.1 dX13_spins_107 rfl ?_
    refine g_iconst (np := 111) (v := 1) B.1 dX13_spins_110 (by decide) rfl ?_
    refine g_dup2 (np := 112) B.1 dX13_spins_111 rfl rfl rfl ?_
    refine g_ialdL (np := 113) B.1 10 8 (by decide) rfl rfl 1 (by decide) (vpl (by decide)) dX13_spins_112 rfl ?_
    refine g_iload_n (np := 114) B.1 dX13_spins_113 rfl rfl ?_
    refine g_isub (np := 115) B.1 dX13_spins_114 rfl ?_
    refine g_iastL (np := 116) B.1 10 8 (by decide) rfl (fun _ _ => rfl) 1 (by decide) (vpl (by decide)) dX13_spins_115 rfl ?_
    refine g_mem (fun s19 es19 => ?_)
    replace h := h s19 es19
    refine g_aload_n (np := 117) B.1 dX13_spins_116 rfl rfl ?_
    refine gf_YModel_9_15 (np := 120) B.1 dX13_spins_117 rfl ?_
    refine g_iconst (np := 121) (v := 2) B.1 dX13_spins_120 (by decide) rfl ?_
    refine g_dup2 (np := 122) B.1 dX13_spins_121 rfl rfl rfl ?_
    refine g_ialdL (np := 123) B.1 10 8 (by decide) rfl rfl 2 (by decide) (vpl (by decide)) dX13_spins_122 rfl ?_
    refine g_iload_n (np := 124) B.1 dX13_spins_123 rfl rfl ?_
    refine g_iload (np := 126) B.1 dX13_spins_124 rfl rfl ?_
    refine g_imul (np := 127) B.1 dX13_spins_126 rfl ?_
    refine g_iadd (np := 128) B.1 dX13_spins_127 rfl ?_
    refine g_iastL (np := 129) B.1 10 8 (by decide) rfl (fun _ _ => rfl) 2 (by decide) (vpl (by decide)) dX13_spins_128 rfl ?_
    refine g_mem (fun s20 es20 => ?_)
    replace h := h s20 es20
    refine g_aload_n (np := 130) B.1 dX13_spins_129 rfl rfl ?_
    refine gf_YModel_9_15 (np := 133) B.1 dX13_spins_130 rfl ?_
    refine g_bipush (np := 135) (v := 6) B.1 dX13_spins_133 (by decide) rfl ?_
    refine g_dup2 (np := 136) B.1 dX13_spins_135 rfl rfl rfl ?_
    refine g_ialdL (np := 137) B.1 10 8 (by decide) rfl rfl 6 (by decide) (vpl (by decide)) dX13_spins_136 rfl ?_
    refine g_iload_n (np := 138) B.1 dX13_spins_137 rfl rfl ?_
    refine g_iadd (np := 139) B.1 dX13_spins_138 rfl ?_
    refine g_iastL (np := 140) B.1 10 8 (by decide) rfl (fun _ _ => rfl) 6 (by decide) (vpl (by decide)) dX13_spins_139 rfl ?_
    refine g_mem (fun s21 es21 => ?_)
    replace h := h s21 es21
    refine g_iload_n (np := 141) B.1 dX13_spins_140 rfl rfl ?_
    refine g_istore (np := 143) (lv' := [some (.ref (xad (fX K) 15 0)), none, some (.int v2), some (.int r13), some (.int r15), some (.int r17), some (.int r13), none, none]) B.1 dX13_spins_141 (by decide) rfl rfl rfl ?_
    refine g_iconst (np := 144) (v := 0) B.1 dX13_spins_143 (by decide) rfl ?_
    refine g_istore (np := 146) (lv' := [some (.ref (xad (fX K) 15 0)), none, some (.int v2), some (.int r13), some (.int r15), some (.int r17), some (.int r13), some (.int 0), none]) B.1 dX13_spins_144 (by decide) rfl rfl rfl ?_
    obtain ⟨m37, h⟩ := h
    refine Go.lle [some (.ref (xad (fX K) 15 0)), none, some (.int v2), none, some (.int r15), some (.int r17), some (.int r13), some (.int 0), none] (by simp [lle]) ?_
    refine oX13_spins_146 B    (fun x2_31 x5_32 s33 h => ?_) hc hs m37 v2 r15 r17 r13 0  s21 h
    refine g_aload_n (np := 215) B.1 dX13_spins_214 rfl rfl ?_
    refine g_bipush (np := 217) (v := 54) B.1 dX13_spins_215 (by decide) rfl ?_
    refine g_iconst (np := 218) (v := 3) B.1 dX13_spins_217 (by decide) rfl ?_
    refine g_iload_n (np := 219) B.1 dX13_spins_218 rfl rfl ?_
    refine g_imul (np := 220) B.1 dX13_spins_219 rfl ?_
    refine g_iadd (np := 221) B.1 dX13_spins_220 rfl ?_
    refine g_iconst (np := 222) (v := 3) B.1 dX13_spins_221 (by decide) rfl ?_
    refine g_bipush (np := 224) (v := 78) B.1 dX13_spins_222 (by decide) rfl ?_
    refine gc_YModel_93 (np := 227) B   (oX13_closes B.1.tr   (54 + (3 * x2_31)) 3 78  _ _ _ h) (Nat.le_of_ble_eq_true rfl) (Nat.le_of_ble_eq_true rfl) (Nat.le_of_ble_eq_true rfl) hc hs dX13_spins_224 rfl (fun s35 h => ?_)
    refine g_aload_n (np := 228) B.1 dX13_spins_227 rfl rfl ?_
    refine gf_YModel_9_15 (np := 231) B.1 dX13_spins_228 rfl ?_
    refine g_bipush (np := 233) (v := 12) B.1 dX13_spins_231 (by decide) rfl ?_
    refine g_dup2 (np := 234) B.1 dX13_spins_233 rfl rfl rfl ?_
    refine g_ialdL (np := 235) B.1 10 8 (by decide) rfl rfl 12 (by decide) (vpl (by decide)) dX13_spins_234 rfl ?_
    refine g_iconst (np := 236) (v := 1) B.1 dX13_spins_235 (by decide) rfl ?_
    refine g_isub (np := 237) B.1 dX13_spins_236 rfl ?_
    refine g_iastL (np := 238) B.1 10 8 (by decide) rfl (fun _ _ => rfl) 12 (by decide) (vpl (by decide)) dX13_spins_237 rfl ?_
    refine g_mem (fun s36 es36 => ?_)
    replace h := h s36 es36
    refine g_iload (np := 240) B.1 dX13_spins_238 rfl rfl ?_
    exact g_iret B (ty := .int) rfl rfl hc hs dX13_spins_240 ⟨_, rfl, h⟩
  · replace h := h.2 q
    refine g_iconst (np := 83) (v := 0) B.1 dX13_spins_82 (by decide) rfl ?_
    exact g_iret B (ty := .int) rfl rfl hc hs dX13_spins_83 ⟨_, rfl, h⟩
set_option maxRecDepth 20000 in
set_option maxHeartbeats 4000000 in
theorem oX13_spins_44 {K : Fr} {Q : Int32 → Mem → Prop} {E : String → Mem → Prop} (B : Bd K cX13_spins "YarnMillModel" 9 (some .int) 2 44 0 0 (RI Q) E)     {cells slots : Nat}  (hc : cells ≤ 0) (hs : slots ≤ 0) : ∀ (v2 : Int32) (z0 : Int32) (s0 : Mem), wX13_spins_44   Q E  v2 z0 s0 → Go K cells slots s0 44 [some (.ref (xad (fX K) 15 0)), none, some (.int v2), none, none, none, none, none, none] (.int z0 :: .ref (xad (fX K) 15 0) :: []) := by
  intro v2 z0 s0 h
  unfold wX13_spins_44 at h
  refine g_iconst (np := 45) (v := 2) B.1 dX13_spins_44 (by decide) rfl ?_
  refine gc_YModel_65 (np := 48) B   (oX13_isThrown B.1.tr   z0 2  _ _ _ h) (Nat.le_of_ble_eq_true rfl) (Nat.le_of_ble_eq_true rfl) (Nat.le_of_ble_eq_true rfl) hc hs dX13_spins_45 rfl (fun r7 s8 h => ?_)
  refine g_if_ne (np := 51) (tgt := 82) B.1 dX13_spins_48 (by decide) rfl (fun q => ?_) (fun q => ?_)
  · replace h := h.1 q
    refine g_iconst (np := 83) (v := 0) B.1 dX13_spins_82 (by decide) rfl ?_
    exact g_iret B (ty := .int) rfl rfl hc hs dX13_spins_83 ⟨_, rfl, h⟩
  · replace h := h.2 q
    refine g_aload_n (np := 52) B.1 dX13_spins_51 rfl rfl ?_
    refine g_aload_n (np := 53) B.1 dX13_spins_52 rfl rfl ?_
    refine gf_YModel_9_15 (np := 56) B.1 dX13_spins_53 rfl ?_
    refine g_bipush (np := 58) (v := 13) B.1 dX13_spins_56 (by decide) rfl ?_
    refine g_ialdL (np := 59) B.1 10 8 (by decide) rfl rfl 13 (by decide) (vpl (by decide)) dX13_spins_58 rfl ?_
    refine g_aload_n (np := 60) B.1 dX13_spins_59 rfl rfl ?_
    refine g_iload_n (np := 61) B.1 dX13_spins_60 rfl rfl ?_
    refine gc_YModel_112 (np := 64) B   (oX13_pieces B.1.tr   v2  _ _ _ h) (Nat.le_of_ble_eq_true rfl) (Nat.le_of_ble_eq_true rfl) (Nat.le_of_ble_eq_true rfl) hc hs dX13_spins_61 rfl (fun r9 s10 h => ?_)
    refine g_iadd (np := 65) B.1 dX13_spins_64 rfl ?_
    refine g_bipush (np := 67) (v := 12) B.1 dX13_spins_65 (by decide) rfl ?_
    refine g_icmp_le (np := 70) (tgt := 74) B.1 dX13_spins_67 (by decide) rfl (fun q => ?_) (fun q => ?_)
    · replace h := h.1 q
      refine g_iconst (np := 75) (v := 0) B.1 dX13_spins_74 (by decide) rfl ?_
      refine Go.lle [some (.ref (xad (fX K) 15 0)), none, some (.int v2), none, none, none, none, none, none] (by simp [lle]) ?_
      refine oX13_spins_75 B     hc hs v2 0 s10 h
    · replace h := h.2 q
      refine g_iconst (np := 71) (v := 1) B.1 dX13_spins_70 (by decide) rfl ?_
      refine g_goto (tgt := 75) B.1 dX13_spins_71 (by decide) ?_
      refine Go.lle [some (.ref (xad (fX K) 15 0)), none, some (.int v2), none, none, none, none, none, none] (by simp [lle]) ?_
      refine oX13_spins_75 B     hc hs v2 1 s10 h
set_option maxRecDepth 20000 in
set_option maxHeartbeats 4000000 in
theorem oX13_spins_16 {K : Fr} {Q : Int32 → Mem → Prop} {E : String → Mem → Prop} (B : Bd K cX13_spins "YarnMillModel" 9 (some .int) 2 44 0 0 (RI Q) E)     {cells slots : Nat}  (hc : cells ≤ 0) (hs : slots ≤ 0) : ∀ (v2 : Int32) (z0 : Int32) (s0 : Mem), wX13_spins_16   Q E  v2 z0 s0 → Go K cells slots s0 16 [some (.ref (xad (fX K) 15 0)), none, some (.int v2), none, none, none, none, none, none] (.int z0 :: .ref (xad (fX K) 15 0) :: []) := by
  intro v2 z0 s0 h
  unfold wX13_spins_16 at h
  refine g_iconst (np := 17) (v := 1) B.1 dX13_spins_16 (by decide) rfl ?_
  refine gc_YModel_65 (np := 20) B   (oX13_isThrown B.1.tr   z0 1  _ _ _ h) (Nat.le_of_ble_eq_true rfl) (Nat.le_of_ble_eq_true rfl) (Nat.le_of_ble_eq_true rfl) hc hs dX13_spins_17 rfl (fun r3 s4 h => ?_)
  refine g_if_ne (np := 23) (tgt := 82) B.1 dX13_spins_20 (by decide) rfl (fun q => ?_) (fun q => ?_)
  · replace h := h.1 q
    refine g_iconst (np := 83) (v := 0) B.1 dX13_spins_82 (by decide) rfl ?_
    exact g_iret B (ty := .int) rfl rfl hc hs dX13_spins_83 ⟨_, rfl, h⟩
  · replace h := h.2 q
    refine g_aload_n (np := 24) B.1 dX13_spins_23 rfl rfl ?_
    refine g_aload_n (np := 25) B.1 dX13_spins_24 rfl rfl ?_
    refine gf_YModel_9_15 (np := 28) B.1 dX13_spins_25 rfl ?_
    refine g_iconst (np := 29) (v := 1) B.1 dX13_spins_28 (by decide) rfl ?_
    refine g_ialdL (np := 30) B.1 10 8 (by decide) rfl rfl 1 (by decide) (vpl (by decide)) dX13_spins_29 rfl ?_
    refine g_aload_n (np := 31) B.1 dX13_spins_30 rfl rfl ?_
    refine g_iload_n (np := 32) B.1 dX13_spins_31 rfl rfl ?_
    refine g_iconst (np := 33) (v := 1) B.1 dX13_spins_32 (by decide) rfl ?_
    refine gc_YModel_58 (np := 36) B   (oX13_ofOrder B.1.tr   v2 1  _ _ _ h) (Nat.le_of_ble_eq_true rfl) (Nat.le_of_ble_eq_true rfl) (Nat.le_of_ble_eq_true rfl) hc hs dX13_spins_33 rfl (fun r5 s6 h => ?_)
    refine g_icmp_ge (np := 39) (tgt := 43) B.1 dX13_spins_36 (by decide) rfl (fun q => ?_) (fun q => ?_)
    · replace h := h.1 q
      refine g_iconst (np := 44) (v := 0) B.1 dX13_spins_43 (by decide) rfl ?_
      refine Go.lle [some (.ref (xad (fX K) 15 0)), none, some (.int v2), none, none, none, none, none, none] (by simp [lle]) ?_
      refine oX13_spins_44 B     hc hs v2 0 s6 h
    · replace h := h.2 q
      refine g_iconst (np := 40) (v := 1) B.1 dX13_spins_39 (by decide) rfl ?_
      refine g_goto (tgt := 44) B.1 dX13_spins_40 (by decide) ?_
      refine Go.lle [some (.ref (xad (fX K) 15 0)), none, some (.int v2), none, none, none, none, none, none] (by simp [lle]) ?_
      refine oX13_spins_44 B     hc hs v2 1 s6 h
set_option maxRecDepth 20000 in
set_option maxHeartbeats 4000000 in
theorem oX13_spins {l : Launch} {x : Ctx} (hl : l.stackTraces = false)   (a1 : Int32)  (s0 : Mem) (Q : Int32 → Mem → Prop) (E : String → Mem → Prop) (h : wX13_spins  a1 s0 Q E) : MetG l x yX13_spins cX13_spins 9 (some .int) 2 44 0 0 [.ref (xad x 15 0), .int a1] s0 (RI Q) E := by
  refine MetG.of hl (by decide) (Nat.le_of_ble_eq_true rfl) [some (.ref (xad x 15 0)), some (.int a1), none, none, none, none, none, none, none] rfl (fun K B hx _ => ?_)
  subst hx
  unfold wX13_spins at h
  refine g_aload_n (np := 1) B.1 dX13_spins_0 rfl rfl ?_
  refine g_iload_n (np := 2) B.1 dX13_spins_1 rfl rfl ?_
  refine gc_YModel_103 (np := 5) B   (oX13_order B.1.tr   a1  _ _ _ h) (Nat.le_of_ble_eq_true rfl) (Nat.le_of_ble_eq_true rfl) (Nat.le_of_ble_eq_true rfl) (Nat.le_of_ble_eq_true rfl) (Nat.le_of_ble_eq_true rfl) dX13_spins_2 rfl (fun r1 s2 h => ?_)
  refine g_istore_n (np := 6) (lv' := [some (.ref (xad (fX K) 15 0)), some (.int a1), some (.int r1), none, none, none, none, none, none]) B.1 dX13_spins_5 (by decide) rfl rfl rfl ?_
  refine g_aload_n (np := 7) B.1 dX13_spins_6 rfl rfl ?_
  refine g_iload_n (np := 8) B.1 dX13_spins_7 rfl rfl ?_
  refine g_if_ge (np := 11) (tgt := 15) B.1 dX13_spins_8 (by decide) rfl (fun q => ?_) (fun q => ?_)
  · replace h := h.1 q
    refine g_iconst (np := 16) (v := 0) B.1 dX13_spins_15 (by decide) rfl ?_
    refine Go.lle [some (.ref (xad (fX K) 15 0)), none, some (.int r1), none, none, none, none, none, none] (by simp [lle]) ?_
    refine oX13_spins_16 B     (Nat.le_of_ble_eq_true rfl) (Nat.le_of_ble_eq_true rfl) r1 0 s2 h
  · replace h := h.2 q
    refine g_iconst (np := 12) (v := 1) B.1 dX13_spins_11 (by decide) rfl ?_
    refine g_goto (tgt := 16) B.1 dX13_spins_12 (by decide) ?_
    refine Go.lle [some (.ref (xad (fX K) 15 0)), none, some (.int r1), none, none, none, none, none, none] (by simp [lle]) ?_
    refine oX13_spins_16 B     (Nat.le_of_ble_eq_true rfl) (Nat.le_of_ble_eq_true rfl) r1 1 s2 h
def wX13_spin  (a1 : Int32) (s0 : Mem) (Q : Int32 → Mem → Prop) (E : String → Mem → Prop) : Prop := wX13_keeps   s0 (fun (s2 : Mem) => wX13_spins  a1 s2 (fun (r3 : Int32) (s4 : Mem) => wX13_ends  r3 s4 (fun (r5 : Int32) (s6 : Mem) => Q r5 s6) E) E) E
set_option maxRecDepth 20000 in
set_option maxHeartbeats 4000000 in
theorem oX13_spin {l : Launch} {x : Ctx} (hl : l.stackTraces = false)   (a1 : Int32)  (s0 : Mem) (Q : Int32 → Mem → Prop) (E : String → Mem → Prop) (h : wX13_spin  a1 s0 Q E) : MetG l x yX13_spin cX13_spin 2 (some .int) 3 72 0 0 [.ref (xad x 15 0), .int a1] s0 (RI Q) E := by
  refine MetG.of hl (by decide) (Nat.le_of_ble_eq_true rfl) [some (.ref (xad x 15 0)), some (.int a1)] rfl (fun K B hx _ => ?_)
  subst hx
  unfold wX13_spin at h
  refine g_aload_n (np := 1) B.1 dX13_spin_0 rfl rfl ?_
  refine gc_YModel_69 (np := 4) B   (oX13_keeps B.1.tr     _ _ _ h) (Nat.le_of_ble_eq_true rfl) (Nat.le_of_ble_eq_true rfl) (Nat.le_of_ble_eq_true rfl) (Nat.le_of_ble_eq_true rfl) (Nat.le_of_ble_eq_true rfl) dX13_spin_1 rfl (fun s2 h => ?_)
  refine g_aload_n (np := 5) B.1 dX13_spin_4 rfl rfl ?_
  refine g_aload_n (np := 6) B.1 dX13_spin_5 rfl rfl ?_
  refine g_iload_n (np := 7) B.1 dX13_spin_6 rfl rfl ?_
  refine gc_YModel_115 (np := 10) B   (oX13_spins B.1.tr   a1  _ _ _ h) (Nat.le_of_ble_eq_true rfl) (Nat.le_of_ble_eq_true rfl) (Nat.le_of_ble_eq_true rfl) (Nat.le_of_ble_eq_true rfl) (Nat.le_of_ble_eq_true rfl) dX13_spin_7 rfl (fun r3 s4 h => ?_)
  refine gc_YModel_76 (np := 13) B   (oX13_ends B.1.tr   r3  _ _ _ h) (Nat.le_of_ble_eq_true rfl) (Nat.le_of_ble_eq_true rfl) (Nat.le_of_ble_eq_true rfl) (Nat.le_of_ble_eq_true rfl) (Nat.le_of_ble_eq_true rfl) dX13_spin_10 rfl (fun r5 s6 h => ?_)
  exact g_iret B (ty := .int) rfl rfl (Nat.le_of_ble_eq_true rfl) (Nat.le_of_ble_eq_true rfl) dX13_spin_13 ⟨_, rfl, h⟩
def wX13_isPiece  (a1 : Int32) (s0 : Mem) (Q : Int32 → Mem → Prop) (E : String → Mem → Prop) : Prop := wX13_isIn  a1 0 ((rd s0 10 8 13) - 1) s0 (fun (r1 : Int32) (s2 : Mem) => (r1 = 0 ∨ r1 = 1) ∧ Q r1 s2) E
set_option maxRecDepth 20000 in
set_option maxHeartbeats 4000000 in
theorem oX13_isPiece {l : Launch} {x : Ctx} (hl : l.stackTraces = false)   (a1 : Int32)  (s0 : Mem) (Q : Int32 → Mem → Prop) (E : String → Mem → Prop) (h : wX13_isPiece  a1 s0 Q E) : MetG l x yX13_isPiece cX13_isPiece 2 (some .boolean) 1 22 0 0 [.ref (xad x 15 0), .int a1] s0 (RI Q) E := by
  refine MetG.of hl (by decide) (Nat.le_of_ble_eq_true rfl) [some (.ref (xad x 15 0)), some (.int a1)] rfl (fun K B hx _ => ?_)
  subst hx
  unfold wX13_isPiece at h
  refine g_iload_n (np := 1) B.1 dX13_isPiece_0 rfl rfl ?_
  refine g_iconst (np := 2) (v := 0) B.1 dX13_isPiece_1 (by decide) rfl ?_
  refine g_aload_n (np := 3) B.1 dX13_isPiece_2 rfl rfl ?_
  refine gf_YModel_9_15 (np := 6) B.1 dX13_isPiece_3 rfl ?_
  refine g_bipush (np := 8) (v := 13) B.1 dX13_isPiece_6 (by decide) rfl ?_
  refine g_ialdL (np := 9) B.1 10 8 (by decide) rfl rfl 13 (by decide) (vpl (by decide)) dX13_isPiece_8 rfl ?_
  refine g_iconst (np := 10) (v := 1) B.1 dX13_isPiece_9 (by decide) rfl ?_
  refine g_isub (np := 11) B.1 dX13_isPiece_10 rfl ?_
  refine gc_YModel_61 (np := 14) B   (oX13_isIn B.1.tr   a1 0 ((rd s0 10 8 13) - 1)  _ _ _ h) (Nat.le_of_ble_eq_true rfl) (Nat.le_of_ble_eq_true rfl) (Nat.le_of_ble_eq_true rfl) (Nat.le_of_ble_eq_true rfl) (Nat.le_of_ble_eq_true rfl) dX13_isPiece_11 rfl (fun r1 s2 h => ?_)
  exact g_iret B (ty := .boolean) rfl (nar_z h.1) (Nat.le_of_ble_eq_true rfl) (Nat.le_of_ble_eq_true rfl) dX13_isPiece_14 ⟨_, rfl, h.2⟩
def wX13_splices_24   (Q : Int32 → Mem → Prop) (E : String → Mem → Prop)   : Int32 → Int32 → Mem → Prop := fun v1 z0 s0 => wX13_isThrown  z0 1 s0 (fun (r3 : Int32) (s4 : Mem) => ((r3 = 0 → vp_in (78 + v1) (iaLen 8) ∧ vp_in ((78 + v1) + 1) (iaLen 8) ∧ ∀ v2_5 : Int32, v2_5 = ((rd s4 10 8 (78 + v1).toNatClampNeg) + (rd s4 10 8 ((78 + v1) + 1).toNatClampNeg)) → ∀ s6 : Mem, s6 = wr s4 10 8 2 ((rd s4 10 8 2) + v2_5) → ∀ s7 : Mem, s7 = wr s6 10 8 7 ((rd s6 10 8 7) + 1) → wX13_closes  (78 + v1) 1 90 s7 (fun (s9 : Mem) => vp_in (78 + v1) (iaLen 8) ∧ ∀ s10 : Mem, s10 = wr s9 10 8 (78 + v1).toNatClampNeg (v2_5 - 1) → ∀ s11 : Mem, s11 = wr s10 10 8 13 ((rd s10 10 8 13) - 1) → Q (v2_5 - 1) s11) E) ∧ (¬ r3 = 0 → Q 0 s4))) E
def wX13_splices_19   (Q : Int32 → Mem → Prop) (E : String → Mem → Prop)   : Int32 → Mem → Prop := fun v1 s0 => wX13_splices_24   Q E  v1 1 s0
def wX13_splices  (a1 : Int32) (s0 : Mem) (Q : Int32 → Mem → Prop) (E : String → Mem → Prop) : Prop := wX13_isPiece  a1 s0 (fun (r1 : Int32) (s2 : Mem) => ((r1 = 0 → wX13_splices_19   Q E  a1  s2) ∧ (¬ r1 = 0 → wX13_isPiece  (a1 + 1) s2 (fun (r12 : Int32) (s13 : Mem) => ((¬ r12 = 0 → wX13_splices_24   Q E  a1 0 s13) ∧ (r12 = 0 → wX13_splices_19   Q E  a1  s13))) E))) E
set_option maxRecDepth 20000 in
set_option maxHeartbeats 4000000 in
theorem oX13_splices_24 {K : Fr} {Q : Int32 → Mem → Prop} {E : String → Mem → Prop} (B : Bd K cX13_splices "YarnMillModel" 3 (some .int) 2 43 0 0 (RI Q) E)     {cells slots : Nat}  (hc : cells ≤ 0) (hs : slots ≤ 0) : ∀ (v1 : Int32) (z0 : Int32) (s0 : Mem), wX13_splices_24   Q E  v1 z0 s0 → Go K cells slots s0 24 [some (.ref (xad (fX K) 15 0)), some (.int v1), none] (.int z0 :: .ref (xad (fX K) 15 0) :: []) := by
  intro v1 z0 s0 h
  unfold wX13_splices_24 at h
  refine g_iconst (np := 25) (v := 1) B.1 dX13_splices_24 (by decide) rfl ?_
  refine gc_YModel_65 (np := 28) B   (oX13_isThrown B.1.tr   z0 1  _ _ _ h) (Nat.le_of_ble_eq_true rfl) (Nat.le_of_ble_eq_true rfl) (Nat.le_of_ble_eq_true rfl) hc hs dX13_splices_25 rfl (fun r3 s4 h => ?_)
  refine g_if_eq (np := 31) (tgt := 33) B.1 dX13_splices_28 (by decide) rfl (fun q => ?_) (fun q => ?_)
  · replace h := h.1 q
    refine g_aload_n (np := 34) B.1 dX13_splices_33 rfl rfl ?_
    refine gf_YModel_9_15 (np := 37) B.1 dX13_splices_34 rfl ?_
    refine g_bipush (np := 39) (v := 78) B.1 dX13_splices_37 (by decide) rfl ?_
    refine g_iload_n (np := 40) B.1 dX13_splices_39 rfl rfl ?_
    refine g_iadd (np := 41) B.1 dX13_splices_40 rfl ?_
    refine g_iald (np := 42) B.1 10 8 (by decide) rfl rfl h.1 dX13_splices_41 rfl ?_
    replace h := h.2
    refine g_aload_n (np := 43) B.1 dX13_splices_42 rfl rfl ?_
    refine gf_YModel_9_15 (np := 46) B.1 dX13_splices_43 rfl ?_
    refine g_bipush (np := 48) (v := 78) B.1 dX13_splices_46 (by decide) rfl ?_
    refine g_iload_n (np := 49) B.1 dX13_splices_48 rfl rfl ?_
    refine g_iadd (np := 50) B.1 dX13_splices_49 rfl ?_
    refine g_iconst (np := 51) (v := 1) B.1 dX13_splices_50 (by decide) rfl ?_
    refine g_iadd (np := 52) B.1 dX13_splices_51 rfl ?_
    refine g_iald (np := 53) B.1 10 8 (by decide) rfl rfl h.1 dX13_splices_52 rfl ?_
    replace h := h.2
    refine g_iadd (np := 54) B.1 dX13_splices_53 rfl ?_
    refine g_topi (fun v2_5 ev2_5 => ?_)
    replace h := h v2_5 ev2_5
    refine g_istore_n (np := 55) (lv' := [some (.ref (xad (fX K) 15 0)), some (.int v1), some (.int v2_5)]) B.1 dX13_splices_54 (by decide) rfl rfl rfl ?_
    refine g_aload_n (np := 56) B.1 dX13_splices_55 rfl rfl ?_
    refine gf_YModel_9_15 (np := 59) B.1 dX13_splices_56 rfl ?_
    refine g_iconst (np := 60) (v := 2) B.1 dX13_splices_59 (by decide) rfl ?_
    refine g_dup2 (np := 61) B.1 dX13_splices_60 rfl rfl rfl ?_
    refine g_ialdL (np := 62) B.1 10 8 (by decide) rfl rfl 2 (by decide) (vpl (by decide)) dX13_splices_61 rfl ?_
    refine g_iload_n (np := 63) B.1 dX13_splices_62 rfl rfl ?_
    refine g_iadd (np := 64) B.1 dX13_splices_63 rfl ?_
    refine g_iastL (np := 65) B.1 10 8 (by decide) rfl (fun _ _ => rfl) 2 (by decide) (vpl (by decide)) dX13_splices_64 rfl ?_
    refine g_mem (fun s6 es6 => ?_)
    replace h := h s6 es6
    refine g_aload_n (np := 66) B.1 dX13_splices_65 rfl rfl ?_
    refine gf_YModel_9_15 (np := 69) B.1 dX13_splices_66 rfl ?_
    refine g_bipush (np := 71) (v := 7) B.1 dX13_splices_69 (by decide) rfl ?_
    refine g_dup2 (np := 72) B.1 dX13_splices_71 rfl rfl rfl ?_
    refine g_ialdL (np := 73) B.1 10 8 (by decide) rfl rfl 7 (by decide) (vpl (by decide)) dX13_splices_72 rfl ?_
    refine g_iconst (np := 74) (v := 1) B.1 dX13_splices_73 (by decide) rfl ?_
    refine g_iadd (np := 75) B.1 dX13_splices_74 rfl ?_
    refine g_iastL (np := 76) B.1 10 8 (by decide) rfl (fun _ _ => rfl) 7 (by decide) (vpl (by decide)) dX13_splices_75 rfl ?_
    refine g_mem (fun s7 es7 => ?_)
    replace h := h s7 es7
    refine g_aload_n (np := 77) B.1 dX13_splices_76 rfl rfl ?_
    refine g_bipush (np := 79) (v := 78) B.1 dX13_splices_77 (by decide) rfl ?_
    refine g_iload_n (np := 80) B.1 dX13_splices_79 rfl rfl ?_
    refine g_iadd (np := 81) B.1 dX13_splices_80 rfl ?_
    refine g_iconst (np := 82) (v := 1) B.1 dX13_splices_81 (by decide) rfl ?_
    refine g_bipush (np := 84) (v := 90) B.1 dX13_splices_82 (by decide) rfl ?_
    refine gc_YModel_93 (np := 87) B   (oX13_closes B.1.tr   (78 + v1) 1 90  _ _ _ h) (Nat.le_of_ble_eq_true rfl) (Nat.le_of_ble_eq_true rfl) (Nat.le_of_ble_eq_true rfl) hc hs dX13_splices_84 rfl (fun s9 h => ?_)
    refine g_aload_n (np := 88) B.1 dX13_splices_87 rfl rfl ?_
    refine gf_YModel_9_15 (np := 91) B.1 dX13_splices_88 rfl ?_
    refine g_bipush (np := 93) (v := 78) B.1 dX13_splices_91 (by decide) rfl ?_
    refine g_iload_n (np := 94) B.1 dX13_splices_93 rfl rfl ?_
    refine g_iadd (np := 95) B.1 dX13_splices_94 rfl ?_
    refine g_iload_n (np := 96) B.1 dX13_splices_95 rfl rfl ?_
    refine g_iconst (np := 97) (v := 1) B.1 dX13_splices_96 (by decide) rfl ?_
    refine g_isub (np := 98) B.1 dX13_splices_97 rfl ?_
    refine g_iast (np := 99) B.1 10 8 (by decide) rfl (fun _ _ => rfl) h.1 dX13_splices_98 rfl ?_
    replace h := h.2
    refine g_mem (fun s10 es10 => ?_)
    replace h := h s10 es10
    refine g_aload_n (np := 100) B.1 dX13_splices_99 rfl rfl ?_
    refine gf_YModel_9_15 (np := 103) B.1 dX13_splices_100 rfl ?_
    refine g_bipush (np := 105) (v := 13) B.1 dX13_splices_103 (by decide) rfl ?_
    refine g_dup2 (np := 106) B.1 dX13_splices_105 rfl rfl rfl ?_
    refine g_ialdL (np := 107) B.1 10 8 (by decide) rfl rfl 13 (by decide) (vpl (by decide)) dX13_splices_106 rfl ?_
    refine g_iconst (np := 108) (v := 1) B.1 dX13_splices_107 (by decide) rfl ?_
    refine g_isub (np := 109) B.1 dX13_splices_108 rfl ?_
    refine g_iastL (np := 110) B.1 10 8 (by decide) rfl (fun _ _ => rfl) 13 (by decide) (vpl (by decide)) dX13_splices_109 rfl ?_
    refine g_mem (fun s11 es11 => ?_)
    replace h := h s11 es11
    refine g_iload_n (np := 111) B.1 dX13_splices_110 rfl rfl ?_
    refine g_iconst (np := 112) (v := 1) B.1 dX13_splices_111 (by decide) rfl ?_
    refine g_isub (np := 113) B.1 dX13_splices_112 rfl ?_
    exact g_iret B (ty := .int) rfl rfl hc hs dX13_splices_113 ⟨_, rfl, h⟩
  · replace h := h.2 q
    refine g_iconst (np := 32) (v := 0) B.1 dX13_splices_31 (by decide) rfl ?_
    exact g_iret B (ty := .int) rfl rfl hc hs dX13_splices_32 ⟨_, rfl, h⟩
set_option maxRecDepth 20000 in
set_option maxHeartbeats 4000000 in
theorem oX13_splices_19 {K : Fr} {Q : Int32 → Mem → Prop} {E : String → Mem → Prop} (B : Bd K cX13_splices "YarnMillModel" 3 (some .int) 2 43 0 0 (RI Q) E)     {cells slots : Nat}  (hc : cells ≤ 0) (hs : slots ≤ 0) : ∀ (v1 : Int32) (s0 : Mem), wX13_splices_19   Q E  v1 s0 → Go K cells slots s0 19 [some (.ref (xad (fX K) 15 0)), some (.int v1), none] (.ref (xad (fX K) 15 0) :: []) := by
  intro v1 s0 h
  unfold wX13_splices_19 at h
  refine g_iconst (np := 20) (v := 1) B.1 dX13_splices_19 (by decide) rfl ?_
  refine g_goto (tgt := 24) B.1 dX13_splices_20 (by decide) ?_
  refine Go.lle [some (.ref (xad (fX K) 15 0)), some (.int v1), none] (by simp [lle]) ?_
  refine oX13_splices_24 B     hc hs v1 1 s0 h
set_option maxRecDepth 20000 in
set_option maxHeartbeats 4000000 in
theorem oX13_splices {l : Launch} {x : Ctx} (hl : l.stackTraces = false)   (a1 : Int32)  (s0 : Mem) (Q : Int32 → Mem → Prop) (E : String → Mem → Prop) (h : wX13_splices  a1 s0 Q E) : MetG l x yX13_splices cX13_splices 3 (some .int) 2 43 0 0 [.ref (xad x 15 0), .int a1] s0 (RI Q) E := by
  refine MetG.of hl (by decide) (Nat.le_of_ble_eq_true rfl) [some (.ref (xad x 15 0)), some (.int a1), none] rfl (fun K B hx _ => ?_)
  subst hx
  unfold wX13_splices at h
  refine g_aload_n (np := 1) B.1 dX13_splices_0 rfl rfl ?_
  refine g_aload_n (np := 2) B.1 dX13_splices_1 rfl rfl ?_
  refine g_iload_n (np := 3) B.1 dX13_splices_2 rfl rfl ?_
  refine gc_YModel_118 (np := 6) B   (oX13_isPiece B.1.tr   a1  _ _ _ h) (Nat.le_of_ble_eq_true rfl) (Nat.le_of_ble_eq_true rfl) (Nat.le_of_ble_eq_true rfl) (Nat.le_of_ble_eq_true rfl) (Nat.le_of_ble_eq_true rfl) dX13_splices_3 rfl (fun r1 s2 h => ?_)
  refine g_if_eq (np := 9) (tgt := 19) B.1 dX13_splices_6 (by decide) rfl (fun q => ?_) (fun q => ?_)
  · replace h := h.1 q
    refine Go.lle [some (.ref (xad (fX K) 15 0)), some (.int a1), none] (by simp [lle]) ?_
    refine oX13_splices_19 B     (Nat.le_of_ble_eq_true rfl) (Nat.le_of_ble_eq_true rfl) a1  s2 h
  · replace h := h.2 q
    refine g_aload_n (np := 10) B.1 dX13_splices_9 rfl rfl ?_
    refine g_iload_n (np := 11) B.1 dX13_splices_10 rfl rfl ?_
    refine g_iconst (np := 12) (v := 1) B.1 dX13_splices_11 (by decide) rfl ?_
    refine g_iadd (np := 13) B.1 dX13_splices_12 rfl ?_
    refine gc_YModel_118 (np := 16) B   (oX13_isPiece B.1.tr   (a1 + 1)  _ _ _ h) (Nat.le_of_ble_eq_true rfl) (Nat.le_of_ble_eq_true rfl) (Nat.le_of_ble_eq_true rfl) (Nat.le_of_ble_eq_true rfl) (Nat.le_of_ble_eq_true rfl) dX13_splices_13 rfl (fun r12 s13 h => ?_)
    refine g_if_ne (np := 19) (tgt := 23) B.1 dX13_splices_16 (by decide) rfl (fun q => ?_) (fun q => ?_)
    · replace h := h.1 q
      refine g_iconst (np := 24) (v := 0) B.1 dX13_splices_23 (by decide) rfl ?_
      refine Go.lle [some (.ref (xad (fX K) 15 0)), some (.int a1), none] (by simp [lle]) ?_
      refine oX13_splices_24 B     (Nat.le_of_ble_eq_true rfl) (Nat.le_of_ble_eq_true rfl) a1 0 s13 h
    · replace h := h.2 q
      refine Go.lle [some (.ref (xad (fX K) 15 0)), some (.int a1), none] (by simp [lle]) ?_
      refine oX13_splices_19 B     (Nat.le_of_ble_eq_true rfl) (Nat.le_of_ble_eq_true rfl) a1  s13 h
