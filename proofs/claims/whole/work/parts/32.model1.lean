def wX13_splice  (a1 : Int32) (s0 : Mem) (Q : Int32 → Mem → Prop) (E : String → Mem → Prop) : Prop := wX13_keeps   s0 (fun (s2 : Mem) => wX13_splices  a1 s2 (fun (r3 : Int32) (s4 : Mem) => wX13_ends  r3 s4 (fun (r5 : Int32) (s6 : Mem) => Q r5 s6) E) E) E
set_option maxRecDepth 20000 in
set_option maxHeartbeats 4000000 in
theorem oX13_splice {l : Launch} {x : Ctx} (hl : l.stackTraces = false)   (a1 : Int32)  (s0 : Mem) (Q : Int32 → Mem → Prop) (E : String → Mem → Prop) (h : wX13_splice  a1 s0 Q E) : MetG l x yX13_splice cX13_splice 2 (some .int) 3 65 0 0 [.ref (xad x 15 0), .int a1] s0 (RI Q) E := by
  refine MetG.of hl (by decide) (Nat.le_of_ble_eq_true rfl) [some (.ref (xad x 15 0)), some (.int a1)] rfl (fun K B hx _ => ?_)
  subst hx
  unfold wX13_splice at h
  refine g_aload_n (np := 1) B.1 dX13_splice_0 rfl rfl ?_
  refine gc_YModel_69 (np := 4) B   (oX13_keeps B.1.tr     _ _ _ h) (Nat.le_of_ble_eq_true rfl) (Nat.le_of_ble_eq_true rfl) (Nat.le_of_ble_eq_true rfl) (Nat.le_of_ble_eq_true rfl) (Nat.le_of_ble_eq_true rfl) dX13_splice_1 rfl (fun s2 h => ?_)
  refine g_aload_n (np := 5) B.1 dX13_splice_4 rfl rfl ?_
  refine g_aload_n (np := 6) B.1 dX13_splice_5 rfl rfl ?_
  refine g_iload_n (np := 7) B.1 dX13_splice_6 rfl rfl ?_
  refine gc_YModel_122 (np := 10) B   (oX13_splices B.1.tr   a1  _ _ _ h) (Nat.le_of_ble_eq_true rfl) (Nat.le_of_ble_eq_true rfl) (Nat.le_of_ble_eq_true rfl) (Nat.le_of_ble_eq_true rfl) (Nat.le_of_ble_eq_true rfl) dX13_splice_7 rfl (fun r3 s4 h => ?_)
  refine gc_YModel_76 (np := 13) B   (oX13_ends B.1.tr   r3  _ _ _ h) (Nat.le_of_ble_eq_true rfl) (Nat.le_of_ble_eq_true rfl) (Nat.le_of_ble_eq_true rfl) (Nat.le_of_ble_eq_true rfl) (Nat.le_of_ble_eq_true rfl) dX13_splice_10 rfl (fun r5 s6 h => ?_)
  exact g_iret B (ty := .int) rfl rfl (Nat.le_of_ble_eq_true rfl) (Nat.le_of_ble_eq_true rfl) dX13_splice_13 ⟨_, rfl, h⟩
def wX13_spliced_7   (Q : Int32 → Mem → Prop) (E : String → Mem → Prop)  (X32 : Int32 → Mem → Prop) : Nat → Int32 → Int32 → Int32 → Mem → Prop
  | 0, _, _, _, _ => False
  | n7 + 1, v2, v3, v4, s0 => ((v2 < v4 → X32 v3 s0) ∧ (¬ v2 < v4 → vp_in (78 + v4) (iaLen 8) ∧ ∀ v3_2 : Int32, v3_2 = (v3 + (rd s0 10 8 (78 + v4).toNatClampNeg)) → ∀ v4_3 : Int32, v4_3 = (v4 + 1) → wX13_spliced_7   Q E X32 n7 v2 v3_2 v4_3 s0))
def wX13_spliced  (a1 : Int32) (a2 : Int32) (s0 : Mem) (Q : Int32 → Mem → Prop) (E : String → Mem → Prop) : Prop := ∀ v3_1 : Int32, v3_1 = (a1 - a2) → ∃ m6 : Nat, wX13_spliced_7   Q E (fun (x3_4 : Int32) (s5 : Mem) => Q x3_4 s5) m6 a2 v3_1 a1  s0
set_option maxRecDepth 20000 in
set_option maxHeartbeats 4000000 in
theorem oX13_spliced_7 {K : Fr} {Q : Int32 → Mem → Prop} {E : String → Mem → Prop} (B : Bd K cX13_spliced "YarnMillModel" 5 (some .int) 0 0 0 0 (RI Q) E)    {X32 : Int32 → Mem → Prop} {cells slots : Nat} (hX32 : ∀ (y3 : Int32) (τ : Mem), X32 y3 τ → Go K cells slots τ 32 [none, none, none, some (.int y3), none] ([])) (hc : cells ≤ 0) (hs : slots ≤ 0) : ∀ (n : Nat) (v2 : Int32) (v3 : Int32) (v4 : Int32) (s0 : Mem), wX13_spliced_7   Q E X32 n v2 v3 v4 s0 → Go K cells slots s0 7 [some (.ref (xad (fX K) 15 0)), none, some (.int v2), some (.int v3), some (.int v4)] ([]) := by
  intro n
  induction n with
  | zero => intro v2 v3 v4 s0 h; exact absurd h (by simp [wX13_spliced_7])
  | succ n ih =>
    intro v2 v3 v4 s0 h
    simp only [wX13_spliced_7] at h
    refine g_iload (np := 9) B.1 dX13_spliced_7 rfl rfl ?_
    refine g_iload_n (np := 10) B.1 dX13_spliced_9 rfl rfl ?_
    refine g_icmp_gt (np := 13) (tgt := 32) B.1 dX13_spliced_10 (by decide) rfl (fun q => ?_) (fun q => ?_)
    · replace h := h.1 q
      refine Go.lle [none, none, none, some (.int v3), none] (by simp [lle]) ?_
      exact hX32 v3 s0 h
    · replace h := h.2 q
      refine g_iload_n (np := 14) B.1 dX13_spliced_13 rfl rfl ?_
      refine g_aload_n (np := 15) B.1 dX13_spliced_14 rfl rfl ?_
      refine gf_YModel_9_15 (np := 18) B.1 dX13_spliced_15 rfl ?_
      refine g_bipush (np := 20) (v := 78) B.1 dX13_spliced_18 (by decide) rfl ?_
      refine g_iload (np := 22) B.1 dX13_spliced_20 rfl rfl ?_
      refine g_iadd (np := 23) B.1 dX13_spliced_22 rfl ?_
      refine g_iald (np := 24) B.1 10 8 (by decide) rfl rfl h.1 dX13_spliced_23 rfl ?_
      replace h := h.2
      refine g_iadd (np := 25) B.1 dX13_spliced_24 rfl ?_
      refine g_topi (fun v3_2 ev3_2 => ?_)
      replace h := h v3_2 ev3_2
      refine g_istore_n (np := 26) (lv' := [some (.ref (xad (fX K) 15 0)), none, some (.int v2), some (.int v3_2), some (.int v4)]) B.1 dX13_spliced_25 (by decide) rfl rfl rfl ?_
      obtain ⟨v4_3, ev4_3⟩ : ∃ y : Int32, y = v4 + 1 := ⟨_, rfl⟩
      replace h := h v4_3 ev4_3
      refine g_iinc (np := 29) (v := v4_3) (lv' := [some (.ref (xad (fX K) 15 0)), none, some (.int v2), some (.int v3_2), some (.int v4_3)]) B.1 dX13_spliced_26 rfl (by rw [ev4_3]; rfl) (by decide) rfl rfl rfl ?_
      refine g_goto (tgt := 7) B.1 dX13_spliced_29 (by decide) ?_
      refine Go.lle [some (.ref (xad (fX K) 15 0)), none, some (.int v2), some (.int v3_2), some (.int v4_3)] (by simp [lle]) ?_
      exact ih v2 v3_2 v4_3 s0 h
set_option maxRecDepth 20000 in
set_option maxHeartbeats 4000000 in
theorem oX13_spliced {l : Launch} {x : Ctx} (hl : l.stackTraces = false)   (a1 : Int32) (a2 : Int32)  (s0 : Mem) (Q : Int32 → Mem → Prop) (E : String → Mem → Prop) (h : wX13_spliced  a1 a2 s0 Q E) : MetG l x yX13_spliced cX13_spliced 5 (some .int) 0 0 0 0 [.ref (xad x 15 0), .int a1, .int a2] s0 (RI Q) E := by
  refine MetG.of hl (by decide) (Nat.le_of_ble_eq_true rfl) [some (.ref (xad x 15 0)), some (.int a1), some (.int a2), none, none] rfl (fun K B hx _ => ?_)
  subst hx
  unfold wX13_spliced at h
  refine g_iload_n (np := 1) B.1 dX13_spliced_0 rfl rfl ?_
  refine g_iload_n (np := 2) B.1 dX13_spliced_1 rfl rfl ?_
  refine g_isub (np := 3) B.1 dX13_spliced_2 rfl ?_
  refine g_topi (fun v3_1 ev3_1 => ?_)
  replace h := h v3_1 ev3_1
  refine g_istore_n (np := 4) (lv' := [some (.ref (xad (fX K) 15 0)), some (.int a1), some (.int a2), some (.int v3_1), none]) B.1 dX13_spliced_3 (by decide) rfl rfl rfl ?_
  refine g_iload_n (np := 5) B.1 dX13_spliced_4 rfl rfl ?_
  refine g_istore (np := 7) (lv' := [some (.ref (xad (fX K) 15 0)), some (.int a1), some (.int a2), some (.int v3_1), some (.int a1)]) B.1 dX13_spliced_5 (by decide) rfl rfl rfl ?_
  obtain ⟨m6, h⟩ := h
  refine Go.lle [some (.ref (xad (fX K) 15 0)), none, some (.int a2), some (.int v3_1), some (.int a1)] (by simp [lle]) ?_
  refine oX13_spliced_7 B    (fun x3_4 s5 h => ?_) (Nat.le_of_ble_eq_true rfl) (Nat.le_of_ble_eq_true rfl) m6 a2 v3_1 a1  s0 h
  refine g_iload_n (np := 33) B.1 dX13_spliced_32 rfl rfl ?_
  exact g_iret B (ty := .int) rfl rfl (Nat.le_of_ble_eq_true rfl) (Nat.le_of_ble_eq_true rfl) dX13_spliced_33 ⟨_, rfl, h⟩
def wX13_cost_40   (Q : Int32 → Mem → Prop) (E : String → Mem → Prop)  (X112 : Int32 → Int32 → Int32 → Mem → Prop) : Nat → Int32 → Int32 → Int32 → Int32 → Mem → Prop
  | 0, _, _, _, _, _ => False
  | n40 + 1, v1, v2, v3, v4, s0 => ((v2 ≤ v4 → X112 v1 v2 v3 s0) ∧ (¬ v2 ≤ v4 → vp_in ((12 * v1) + v4) (iaLen 13) ∧ vp_in ((12 * (v4 + 1)) + v2) (iaLen 13) ∧ wX13_spliced  v1 v4 s0 (fun (r3 : Int32) (s4 : Mem) => wX13_spliced  (v4 + 1) v2 s4 (fun (r5 : Int32) (s6 : Mem) => ∀ v5_7 : Int32, v5_7 = ((((rd s0 10 13 ((12 * v1) + v4).toNatClampNeg) + (rd s0 10 13 ((12 * (v4 + 1)) + v2).toNatClampNeg)) + r3) + r5) → ((v3 ≤ v5_7 → ∀ v4_8 : Int32, v4_8 = (v4 + 1) → wX13_cost_40   Q E X112 n40 v1 v2 v3 v4_8 s6) ∧ (¬ v3 ≤ v5_7 → ∀ v4_9 : Int32, v4_9 = (v4 + 1) → wX13_cost_40   Q E X112 n40 v1 v2 v5_7 v4_9 s6))) E) E))
def wX13_cost_23   (Q : Int32 → Mem → Prop) (E : String → Mem → Prop)  (X130 : Int32 → Mem → Prop) : Nat → Int32 → Int32 → Mem → Prop
  | 0, _, _, _ => False
  | n23 + 1, v1, v2, s0 => ((rd s0 10 8 13 ≤ v2 → X130 v1 s0) ∧ (¬ rd s0 10 8 13 ≤ v2 → ∃ m16 : Nat, wX13_cost_40   Q E (fun (x1_10 : Int32) (x2_11 : Int32) (x3_12 : Int32) (s13 : Mem) => vp_in ((12 * x1_10) + x2_11) (iaLen 13) ∧ ∀ s14 : Mem, s14 = wr s13 10 13 ((12 * x1_10) + x2_11).toNatClampNeg x3_12 → ∀ v2_15 : Int32, v2_15 = (x2_11 + 1) → wX13_cost_23   Q E X130 n23 x1_10 v2_15 s14) m16 v1 v2 999999 v1  s0))
def wX13_cost_3   (Q : Int32 → Mem → Prop) (E : String → Mem → Prop)  (X136 : Mem → Prop) : Nat → Int32 → Mem → Prop
  | 0, _, _ => False
  | n3 + 1, v1, s0 => ((v1 < 0 → X136  s0) ∧ (¬ v1 < 0 → vp_in ((12 * v1) + v1) (iaLen 13) ∧ ∀ s1 : Mem, s1 = wr s0 10 13 ((12 * v1) + v1).toNatClampNeg 0 → ∀ v2_2 : Int32, v2_2 = (v1 + 1) → ∃ m20 : Nat, wX13_cost_23   Q E (fun (x1_17 : Int32) (s18 : Mem) => ∀ v1_19 : Int32, v1_19 = (x1_17 + (-1)) → wX13_cost_3   Q E X136 n3 v1_19 s18) m20 v1 v2_2  s1))
def wX13_cost   (s0 : Mem) (Q : Int32 → Mem → Prop) (E : String → Mem → Prop) : Prop := ∃ m22 : Nat, wX13_cost_3   Q E (fun (s21 : Mem) => ((2 ≤ rd s21 10 8 13 → vp_in ((rd s21 10 8 13) - 1) (iaLen 13) ∧ Q (rd s21 10 13 ((rd s21 10 8 13) - 1).toNatClampNeg) s21) ∧ (¬ 2 ≤ rd s21 10 8 13 → Q 0 s21))) m22 11  s0
set_option maxRecDepth 20000 in
set_option maxHeartbeats 4000000 in
theorem oX13_cost_40 {K : Fr} {Q : Int32 → Mem → Prop} {E : String → Mem → Prop} (B : Bd K cX13_cost "YarnMillModel" 6 (some .int) 1 24 0 0 (RI Q) E)    {X112 : Int32 → Int32 → Int32 → Mem → Prop} {cells slots : Nat} (hX112 : ∀ (y1 : Int32) (y2 : Int32) (y3 : Int32) (τ : Mem), X112 y1 y2 y3 τ → Go K cells slots τ 112 [some (.ref (xad (fX K) 15 0)), some (.int y1), some (.int y2), some (.int y3), none, none] ([])) (hc : cells ≤ 0) (hs : slots ≤ 0) : ∀ (n : Nat) (v1 : Int32) (v2 : Int32) (v3 : Int32) (v4 : Int32) (s0 : Mem), wX13_cost_40   Q E X112 n v1 v2 v3 v4 s0 → Go K cells slots s0 40 [some (.ref (xad (fX K) 15 0)), some (.int v1), some (.int v2), some (.int v3), some (.int v4), none] ([]) := by
  intro n
  induction n with
  | zero => intro v1 v2 v3 v4 s0 h; exact absurd h (by simp [wX13_cost_40])
  | succ n ih =>
    intro v1 v2 v3 v4 s0 h
    simp only [wX13_cost_40] at h
    refine g_iload (np := 42) B.1 dX13_cost_40 rfl rfl ?_
    refine g_iload_n (np := 43) B.1 dX13_cost_42 rfl rfl ?_
    refine g_icmp_ge (np := 46) (tgt := 112) B.1 dX13_cost_43 (by decide) rfl (fun q => ?_) (fun q => ?_)
    · replace h := h.1 q
      refine Go.lle [some (.ref (xad (fX K) 15 0)), some (.int v1), some (.int v2), some (.int v3), none, none] (by simp [lle]) ?_
      exact hX112 v1 v2 v3 s0 h
    · replace h := h.2 q
      refine g_aload_n (np := 47) B.1 dX13_cost_46 rfl rfl ?_
      refine gf_YModel_25_15 (np := 50) B.1 dX13_cost_47 rfl ?_
      refine g_bipush (np := 52) (v := 12) B.1 dX13_cost_50 (by decide) rfl ?_
      refine g_iload_n (np := 53) B.1 dX13_cost_52 rfl rfl ?_
      refine g_imul (np := 54) B.1 dX13_cost_53 rfl ?_
      refine g_iload (np := 56) B.1 dX13_cost_54 rfl rfl ?_
      refine g_iadd (np := 57) B.1 dX13_cost_56 rfl ?_
      refine g_iald (np := 58) B.1 10 13 (by decide) rfl rfl h.1 dX13_cost_57 rfl ?_
      replace h := h.2
      refine g_aload_n (np := 59) B.1 dX13_cost_58 rfl rfl ?_
      refine gf_YModel_25_15 (np := 62) B.1 dX13_cost_59 rfl ?_
      refine g_bipush (np := 64) (v := 12) B.1 dX13_cost_62 (by decide) rfl ?_
      refine g_iload (np := 66) B.1 dX13_cost_64 rfl rfl ?_
      refine g_iconst (np := 67) (v := 1) B.1 dX13_cost_66 (by decide) rfl ?_
      refine g_iadd (np := 68) B.1 dX13_cost_67 rfl ?_
      refine g_imul (np := 69) B.1 dX13_cost_68 rfl ?_
      refine g_iload_n (np := 70) B.1 dX13_cost_69 rfl rfl ?_
      refine g_iadd (np := 71) B.1 dX13_cost_70 rfl ?_
      refine g_iald (np := 72) B.1 10 13 (by decide) rfl rfl h.1 dX13_cost_71 rfl ?_
      replace h := h.2
      refine g_iadd (np := 73) B.1 dX13_cost_72 rfl ?_
      refine g_aload_n (np := 74) B.1 dX13_cost_73 rfl rfl ?_
      refine g_iload_n (np := 75) B.1 dX13_cost_74 rfl rfl ?_
      refine g_iload (np := 77) B.1 dX13_cost_75 rfl rfl ?_
      refine gc_YModel_126 (np := 80) B   (oX13_spliced B.1.tr   v1 v4  _ _ _ h) (Nat.le_of_ble_eq_true rfl) (Nat.le_of_ble_eq_true rfl) (Nat.le_of_ble_eq_true rfl) hc hs dX13_cost_77 rfl (fun r3 s4 h => ?_)
      refine g_iadd (np := 81) B.1 dX13_cost_80 rfl ?_
      refine g_aload_n (np := 82) B.1 dX13_cost_81 rfl rfl ?_
      refine g_iload (np := 84) B.1 dX13_cost_82 rfl rfl ?_
      refine g_iconst (np := 85) (v := 1) B.1 dX13_cost_84 (by decide) rfl ?_
      refine g_iadd (np := 86) B.1 dX13_cost_85 rfl ?_
      refine g_iload_n (np := 87) B.1 dX13_cost_86 rfl rfl ?_
      refine gc_YModel_126 (np := 90) B   (oX13_spliced B.1.tr   (v4 + 1) v2  _ _ _ h) (Nat.le_of_ble_eq_true rfl) (Nat.le_of_ble_eq_true rfl) (Nat.le_of_ble_eq_true rfl) hc hs dX13_cost_87 rfl (fun r5 s6 h => ?_)
      refine g_iadd (np := 91) B.1 dX13_cost_90 rfl ?_
      refine g_topi (fun v5_7 ev5_7 => ?_)
      replace h := h v5_7 ev5_7
      refine g_istore (np := 93) (lv' := [some (.ref (xad (fX K) 15 0)), some (.int v1), some (.int v2), some (.int v3), some (.int v4), some (.int v5_7)]) B.1 dX13_cost_91 (by decide) rfl rfl rfl ?_
      refine g_iload (np := 95) B.1 dX13_cost_93 rfl rfl ?_
      refine g_iload_n (np := 96) B.1 dX13_cost_95 rfl rfl ?_
      refine g_icmp_ge (np := 99) (tgt := 104) B.1 dX13_cost_96 (by decide) rfl (fun q => ?_) (fun q => ?_)
      · replace h := h.1 q
        refine g_iload_n (np := 105) B.1 dX13_cost_104 rfl rfl ?_
        refine g_istore_n (np := 106) (lv' := [some (.ref (xad (fX K) 15 0)), some (.int v1), some (.int v2), some (.int v3), some (.int v4), some (.int v5_7)]) B.1 dX13_cost_105 (by decide) rfl rfl rfl ?_
        obtain ⟨v4_8, ev4_8⟩ : ∃ y : Int32, y = v4 + 1 := ⟨_, rfl⟩
        replace h := h v4_8 ev4_8
        refine g_iinc (np := 109) (v := v4_8) (lv' := [some (.ref (xad (fX K) 15 0)), some (.int v1), some (.int v2), some (.int v3), some (.int v4_8), some (.int v5_7)]) B.1 dX13_cost_106 rfl (by rw [ev4_8]; rfl) (by decide) rfl rfl rfl ?_
        refine g_goto (tgt := 40) B.1 dX13_cost_109 (by decide) ?_
        refine Go.lle [some (.ref (xad (fX K) 15 0)), some (.int v1), some (.int v2), some (.int v3), some (.int v4_8), none] (by simp [lle]) ?_
        exact ih v1 v2 v3 v4_8 s6 h
      · replace h := h.2 q
        refine g_iload (np := 101) B.1 dX13_cost_99 rfl rfl ?_
        refine g_goto (tgt := 105) B.1 dX13_cost_101 (by decide) ?_
        refine g_istore_n (np := 106) (lv' := [some (.ref (xad (fX K) 15 0)), some (.int v1), some (.int v2), some (.int v5_7), some (.int v4), some (.int v5_7)]) B.1 dX13_cost_105 (by decide) rfl rfl rfl ?_
        obtain ⟨v4_9, ev4_9⟩ : ∃ y : Int32, y = v4 + 1 := ⟨_, rfl⟩
        replace h := h v4_9 ev4_9
        refine g_iinc (np := 109) (v := v4_9) (lv' := [some (.ref (xad (fX K) 15 0)), some (.int v1), some (.int v2), some (.int v5_7), some (.int v4_9), some (.int v5_7)]) B.1 dX13_cost_106 rfl (by rw [ev4_9]; rfl) (by decide) rfl rfl rfl ?_
        refine g_goto (tgt := 40) B.1 dX13_cost_109 (by decide) ?_
        refine Go.lle [some (.ref (xad (fX K) 15 0)), some (.int v1), some (.int v2), some (.int v5_7), some (.int v4_9), none] (by simp [lle]) ?_
        exact ih v1 v2 v5_7 v4_9 s6 h
set_option maxRecDepth 20000 in
set_option maxHeartbeats 4000000 in
theorem oX13_cost_23 {K : Fr} {Q : Int32 → Mem → Prop} {E : String → Mem → Prop} (B : Bd K cX13_cost "YarnMillModel" 6 (some .int) 1 24 0 0 (RI Q) E)    {X130 : Int32 → Mem → Prop} {cells slots : Nat} (hX130 : ∀ (y1 : Int32) (τ : Mem), X130 y1 τ → Go K cells slots τ 130 [some (.ref (xad (fX K) 15 0)), some (.int y1), none, none, none, none] ([])) (hc : cells ≤ 0) (hs : slots ≤ 0) : ∀ (n : Nat) (v1 : Int32) (v2 : Int32) (s0 : Mem), wX13_cost_23   Q E X130 n v1 v2 s0 → Go K cells slots s0 23 [some (.ref (xad (fX K) 15 0)), some (.int v1), some (.int v2), none, none, none] ([]) := by
  intro n
  induction n with
  | zero => intro v1 v2 s0 h; exact absurd h (by simp [wX13_cost_23])
  | succ n ih =>
    intro v1 v2 s0 h
    simp only [wX13_cost_23] at h
    refine g_iload_n (np := 24) B.1 dX13_cost_23 rfl rfl ?_
    refine g_aload_n (np := 25) B.1 dX13_cost_24 rfl rfl ?_
    refine gf_YModel_9_15 (np := 28) B.1 dX13_cost_25 rfl ?_
    refine g_bipush (np := 30) (v := 13) B.1 dX13_cost_28 (by decide) rfl ?_
    refine g_ialdL (np := 31) B.1 10 8 (by decide) rfl rfl 13 (by decide) (vpl (by decide)) dX13_cost_30 rfl ?_
    refine g_icmp_ge (np := 34) (tgt := 130) B.1 dX13_cost_31 (by decide) rfl (fun q => ?_) (fun q => ?_)
    · replace h := h.1 q
      refine Go.lle [some (.ref (xad (fX K) 15 0)), some (.int v1), none, none, none, none] (by simp [lle]) ?_
      exact hX130 v1 s0 h
    · replace h := h.2 q
      refine g_ldc (np := 36) (v := 999999) B.1 b_1944 dX13_cost_34 rfl ?_
      refine g_istore_n (np := 37) (lv' := [some (.ref (xad (fX K) 15 0)), some (.int v1), some (.int v2), some (.int 999999), none, none]) B.1 dX13_cost_36 (by decide) rfl rfl rfl ?_
      refine g_iload_n (np := 38) B.1 dX13_cost_37 rfl rfl ?_
      refine g_istore (np := 40) (lv' := [some (.ref (xad (fX K) 15 0)), some (.int v1), some (.int v2), some (.int 999999), some (.int v1), none]) B.1 dX13_cost_38 (by decide) rfl rfl rfl ?_
      obtain ⟨m16, h⟩ := h
      refine Go.lle [some (.ref (xad (fX K) 15 0)), some (.int v1), some (.int v2), some (.int 999999), some (.int v1), none] (by simp [lle]) ?_
      refine oX13_cost_40 B    (fun x1_10 x2_11 x3_12 s13 h => ?_) hc hs m16 v1 v2 999999 v1  s0 h
      refine g_aload_n (np := 113) B.1 dX13_cost_112 rfl rfl ?_
      refine gf_YModel_25_15 (np := 116) B.1 dX13_cost_113 rfl ?_
      refine g_bipush (np := 118) (v := 12) B.1 dX13_cost_116 (by decide) rfl ?_
      refine g_iload_n (np := 119) B.1 dX13_cost_118 rfl rfl ?_
      refine g_imul (np := 120) B.1 dX13_cost_119 rfl ?_
      refine g_iload_n (np := 121) B.1 dX13_cost_120 rfl rfl ?_
      refine g_iadd (np := 122) B.1 dX13_cost_121 rfl ?_
      refine g_iload_n (np := 123) B.1 dX13_cost_122 rfl rfl ?_
      refine g_iast (np := 124) B.1 10 13 (by decide) rfl (fun _ _ => rfl) h.1 dX13_cost_123 rfl ?_
      replace h := h.2
      refine g_mem (fun s14 es14 => ?_)
      replace h := h s14 es14
      obtain ⟨v2_15, ev2_15⟩ : ∃ y : Int32, y = x2_11 + 1 := ⟨_, rfl⟩
      replace h := h v2_15 ev2_15
      refine g_iinc (np := 127) (v := v2_15) (lv' := [some (.ref (xad (fX K) 15 0)), some (.int x1_10), some (.int v2_15), some (.int x3_12), none, none]) B.1 dX13_cost_124 rfl (by rw [ev2_15]; rfl) (by decide) rfl rfl rfl ?_
      refine g_goto (tgt := 23) B.1 dX13_cost_127 (by decide) ?_
      refine Go.lle [some (.ref (xad (fX K) 15 0)), some (.int x1_10), some (.int v2_15), none, none, none] (by simp [lle]) ?_
      exact ih x1_10 v2_15 s14 h
set_option maxRecDepth 20000 in
set_option maxHeartbeats 4000000 in
theorem oX13_cost_3 {K : Fr} {Q : Int32 → Mem → Prop} {E : String → Mem → Prop} (B : Bd K cX13_cost "YarnMillModel" 6 (some .int) 1 24 0 0 (RI Q) E)    {X136 : Mem → Prop} {cells slots : Nat} (hX136 : ∀ (τ : Mem), X136  τ → Go K cells slots τ 136 [some (.ref (xad (fX K) 15 0)), none, none, none, none, none] ([])) (hc : cells ≤ 0) (hs : slots ≤ 0) : ∀ (n : Nat) (v1 : Int32) (s0 : Mem), wX13_cost_3   Q E X136 n v1 s0 → Go K cells slots s0 3 [some (.ref (xad (fX K) 15 0)), some (.int v1), none, none, none, none] ([]) := by
  intro n
  induction n with
  | zero => intro v1 s0 h; exact absurd h (by simp [wX13_cost_3])
  | succ n ih =>
    intro v1 s0 h
    simp only [wX13_cost_3] at h
    refine g_iload_n (np := 4) B.1 dX13_cost_3 rfl rfl ?_
    refine g_if_lt (np := 7) (tgt := 136) B.1 dX13_cost_4 (by decide) rfl (fun q => ?_) (fun q => ?_)
    · replace h := h.1 q
      refine Go.lle [some (.ref (xad (fX K) 15 0)), none, none, none, none, none] (by simp [lle]) ?_
      exact hX136  s0 h
    · replace h := h.2 q
      refine g_aload_n (np := 8) B.1 dX13_cost_7 rfl rfl ?_
      refine gf_YModel_25_15 (np := 11) B.1 dX13_cost_8 rfl ?_
      refine g_bipush (np := 13) (v := 12) B.1 dX13_cost_11 (by decide) rfl ?_
      refine g_iload_n (np := 14) B.1 dX13_cost_13 rfl rfl ?_
      refine g_imul (np := 15) B.1 dX13_cost_14 rfl ?_
      refine g_iload_n (np := 16) B.1 dX13_cost_15 rfl rfl ?_
      refine g_iadd (np := 17) B.1 dX13_cost_16 rfl ?_
      refine g_iconst (np := 18) (v := 0) B.1 dX13_cost_17 (by decide) rfl ?_
      refine g_iast (np := 19) B.1 10 13 (by decide) rfl (fun _ _ => rfl) h.1 dX13_cost_18 rfl ?_
      replace h := h.2
      refine g_mem (fun s1 es1 => ?_)
      replace h := h s1 es1
      refine g_iload_n (np := 20) B.1 dX13_cost_19 rfl rfl ?_
      refine g_iconst (np := 21) (v := 1) B.1 dX13_cost_20 (by decide) rfl ?_
      refine g_iadd (np := 22) B.1 dX13_cost_21 rfl ?_
      refine g_topi (fun v2_2 ev2_2 => ?_)
      replace h := h v2_2 ev2_2
      refine g_istore_n (np := 23) (lv' := [some (.ref (xad (fX K) 15 0)), some (.int v1), some (.int v2_2), none, none, none]) B.1 dX13_cost_22 (by decide) rfl rfl rfl ?_
      obtain ⟨m20, h⟩ := h
      refine Go.lle [some (.ref (xad (fX K) 15 0)), some (.int v1), some (.int v2_2), none, none, none] (by simp [lle]) ?_
      refine oX13_cost_23 B    (fun x1_17 s18 h => ?_) hc hs m20 v1 v2_2  s1 h
      obtain ⟨v1_19, ev1_19⟩ : ∃ y : Int32, y = x1_17 + (-1) := ⟨_, rfl⟩
      replace h := h v1_19 ev1_19
      refine g_iinc (np := 133) (v := v1_19) (lv' := [some (.ref (xad (fX K) 15 0)), some (.int v1_19), none, none, none, none]) B.1 dX13_cost_130 rfl (by rw [ev1_19]; rfl) (by decide) rfl rfl rfl ?_
      refine g_goto (tgt := 3) B.1 dX13_cost_133 (by decide) ?_
      refine Go.lle [some (.ref (xad (fX K) 15 0)), some (.int v1_19), none, none, none, none] (by simp [lle]) ?_
      exact ih v1_19 s18 h
set_option maxRecDepth 20000 in
set_option maxHeartbeats 4000000 in
theorem oX13_cost {l : Launch} {x : Ctx} (hl : l.stackTraces = false)     (s0 : Mem) (Q : Int32 → Mem → Prop) (E : String → Mem → Prop) (h : wX13_cost   s0 Q E) : MetG l x yX13_cost cX13_cost 6 (some .int) 1 24 0 0 [.ref (xad x 15 0)] s0 (RI Q) E := by
  refine MetG.of hl (by decide) (Nat.le_of_ble_eq_true rfl) [some (.ref (xad x 15 0)), none, none, none, none, none] rfl (fun K B hx _ => ?_)
  subst hx
  unfold wX13_cost at h
  refine g_bipush (np := 2) (v := 11) B.1 dX13_cost_0 (by decide) rfl ?_
  refine g_istore_n (np := 3) (lv' := [some (.ref (xad (fX K) 15 0)), some (.int 11), none, none, none, none]) B.1 dX13_cost_2 (by decide) rfl rfl rfl ?_
  obtain ⟨m22, h⟩ := h
  refine Go.lle [some (.ref (xad (fX K) 15 0)), some (.int 11), none, none, none, none] (by simp [lle]) ?_
  refine oX13_cost_3 B    (fun s21 h => ?_) (Nat.le_of_ble_eq_true rfl) (Nat.le_of_ble_eq_true rfl) m22 11  s0 h
  refine g_aload_n (np := 137) B.1 dX13_cost_136 rfl rfl ?_
  refine gf_YModel_9_15 (np := 140) B.1 dX13_cost_137 rfl ?_
  refine g_bipush (np := 142) (v := 13) B.1 dX13_cost_140 (by decide) rfl ?_
  refine g_ialdL (np := 143) B.1 10 8 (by decide) rfl rfl 13 (by decide) (vpl (by decide)) dX13_cost_142 rfl ?_
  refine g_iconst (np := 144) (v := 2) B.1 dX13_cost_143 (by decide) rfl ?_
  refine g_icmp_ge (np := 147) (tgt := 151) B.1 dX13_cost_144 (by decide) rfl (fun q => ?_) (fun q => ?_)
  · replace h := h.1 q
    refine g_aload_n (np := 152) B.1 dX13_cost_151 rfl rfl ?_
    refine gf_YModel_25_15 (np := 155) B.1 dX13_cost_152 rfl ?_
    refine g_aload_n (np := 156) B.1 dX13_cost_155 rfl rfl ?_
    refine gf_YModel_9_15 (np := 159) B.1 dX13_cost_156 rfl ?_
    refine g_bipush (np := 161) (v := 13) B.1 dX13_cost_159 (by decide) rfl ?_
    refine g_ialdL (np := 162) B.1 10 8 (by decide) rfl rfl 13 (by decide) (vpl (by decide)) dX13_cost_161 rfl ?_
    refine g_iconst (np := 163) (v := 1) B.1 dX13_cost_162 (by decide) rfl ?_
    refine g_isub (np := 164) B.1 dX13_cost_163 rfl ?_
    refine g_iald (np := 165) B.1 10 13 (by decide) rfl rfl h.1 dX13_cost_164 rfl ?_
    replace h := h.2
    exact g_iret B (ty := .int) rfl rfl (Nat.le_of_ble_eq_true rfl) (Nat.le_of_ble_eq_true rfl) dX13_cost_165 ⟨_, rfl, h⟩
  · replace h := h.2 q
    refine g_iconst (np := 148) (v := 0) B.1 dX13_cost_147 (by decide) rfl ?_
    refine g_goto (tgt := 165) B.1 dX13_cost_148 (by decide) ?_
    exact g_iret B (ty := .int) rfl rfl (Nat.le_of_ble_eq_true rfl) (Nat.le_of_ble_eq_true rfl) dX13_cost_165 ⟨_, rfl, h⟩
def wX13_joins_75   (Q : Int32 → Mem → Prop) (E : String → Mem → Prop)  (X97 : Int32 → Mem → Prop) : Nat → Int32 → Int32 → Mem → Prop
  | 0, _, _, _ => False
  | n75 + 1, v1, v2, s0 => ((12 ≤ v2 → X97 v1 s0) ∧ (¬ 12 ≤ v2 → vp_in (78 + v2) (iaLen 8) ∧ ∀ s9 : Mem, s9 = wr s0 10 8 (78 + v2).toNatClampNeg 0 → ∀ v2_10 : Int32, v2_10 = (v2 + 1) → wX13_joins_75   Q E X97 n75 v1 v2_10 s9))
def wX13_joins_17   (Q : Int32 → Mem → Prop) (E : String → Mem → Prop)   : Int32 → Mem → Prop := fun z0 s0 => wX13_isThrown  z0 1 s0 (fun (r1 : Int32) (s2 : Mem) => ((r1 = 0 → wX13_spliced  0 ((rd s2 10 8 13) - 1) s2 (fun (r3 : Int32) (s4 : Mem) => wX13_cost   s4 (fun (r5 : Int32) (s6 : Mem) => ∀ s7 : Mem, s7 = wr s6 10 8 2 ((rd s4 10 8 2) + r5) → ∀ s8 : Mem, s8 = wr s7 10 8 7 ((rd s7 10 8 7) + ((rd s7 10 8 13) - 1)) → ∃ m15 : Nat, wX13_joins_75   Q E (fun (x1_11 : Int32) (s12 : Mem) => ∀ s13 : Mem, s13 = wr s12 10 8 78 x1_11 → ∀ s14 : Mem, s14 = wr s13 10 8 13 1 → Q x1_11 s14) m15 r3 1  s8) E) E) ∧ (¬ r1 = 0 → Q 0 s2))) E
def wX13_joins   (s0 : Mem) (Q : Int32 → Mem → Prop) (E : String → Mem → Prop) : Prop := ((2 ≤ rd s0 10 8 13 → wX13_joins_17   Q E   0 s0) ∧ (¬ 2 ≤ rd s0 10 8 13 → wX13_joins_17   Q E   1 s0))
set_option maxRecDepth 20000 in
set_option maxHeartbeats 4000000 in
theorem oX13_joins_75 {K : Fr} {Q : Int32 → Mem → Prop} {E : String → Mem → Prop} (B : Bd K cX13_joins "YarnMillModel" 3 (some .int) 2 49 0 0 (RI Q) E)    {X97 : Int32 → Mem → Prop} {cells slots : Nat} (hX97 : ∀ (y1 : Int32) (τ : Mem), X97 y1 τ → Go K cells slots τ 97 [some (.ref (xad (fX K) 15 0)), some (.int y1), none] ([])) (hc : cells ≤ 0) (hs : slots ≤ 0) : ∀ (n : Nat) (v1 : Int32) (v2 : Int32) (s0 : Mem), wX13_joins_75   Q E X97 n v1 v2 s0 → Go K cells slots s0 75 [some (.ref (xad (fX K) 15 0)), some (.int v1), some (.int v2)] ([]) := by
  intro n
  induction n with
  | zero => intro v1 v2 s0 h; exact absurd h (by simp [wX13_joins_75])
  | succ n ih =>
    intro v1 v2 s0 h
    simp only [wX13_joins_75] at h
    refine g_iload_n (np := 76) B.1 dX13_joins_75 rfl rfl ?_
    refine g_bipush (np := 78) (v := 12) B.1 dX13_joins_76 (by decide) rfl ?_
    refine g_icmp_ge (np := 81) (tgt := 97) B.1 dX13_joins_78 (by decide) rfl (fun q => ?_) (fun q => ?_)
    · replace h := h.1 q
      refine Go.lle [some (.ref (xad (fX K) 15 0)), some (.int v1), none] (by simp [lle]) ?_
      exact hX97 v1 s0 h
    · replace h := h.2 q
      refine g_aload_n (np := 82) B.1 dX13_joins_81 rfl rfl ?_
      refine gf_YModel_9_15 (np := 85) B.1 dX13_joins_82 rfl ?_
      refine g_bipush (np := 87) (v := 78) B.1 dX13_joins_85 (by decide) rfl ?_
      refine g_iload_n (np := 88) B.1 dX13_joins_87 rfl rfl ?_
      refine g_iadd (np := 89) B.1 dX13_joins_88 rfl ?_
      refine g_iconst (np := 90) (v := 0) B.1 dX13_joins_89 (by decide) rfl ?_
      refine g_iast (np := 91) B.1 10 8 (by decide) rfl (fun _ _ => rfl) h.1 dX13_joins_90 rfl ?_
      replace h := h.2
      refine g_mem (fun s9 es9 => ?_)
      replace h := h s9 es9
      obtain ⟨v2_10, ev2_10⟩ : ∃ y : Int32, y = v2 + 1 := ⟨_, rfl⟩
      replace h := h v2_10 ev2_10
      refine g_iinc (np := 94) (v := v2_10) (lv' := [some (.ref (xad (fX K) 15 0)), some (.int v1), some (.int v2_10)]) B.1 dX13_joins_91 rfl (by rw [ev2_10]; rfl) (by decide) rfl rfl rfl ?_
      refine g_goto (tgt := 75) B.1 dX13_joins_94 (by decide) ?_
      refine Go.lle [some (.ref (xad (fX K) 15 0)), some (.int v1), some (.int v2_10)] (by simp [lle]) ?_
      exact ih v1 v2_10 s9 h
set_option maxRecDepth 20000 in
set_option maxHeartbeats 4000000 in
theorem oX13_joins_17 {K : Fr} {Q : Int32 → Mem → Prop} {E : String → Mem → Prop} (B : Bd K cX13_joins "YarnMillModel" 3 (some .int) 2 49 0 0 (RI Q) E)     {cells slots : Nat}  (hc : cells ≤ 0) (hs : slots ≤ 0) : ∀ (z0 : Int32) (s0 : Mem), wX13_joins_17   Q E  z0 s0 → Go K cells slots s0 17 [some (.ref (xad (fX K) 15 0)), none, none] (.int z0 :: .ref (xad (fX K) 15 0) :: []) := by
  intro z0 s0 h
  unfold wX13_joins_17 at h
  refine g_iconst (np := 18) (v := 1) B.1 dX13_joins_17 (by decide) rfl ?_
  refine gc_YModel_65 (np := 21) B   (oX13_isThrown B.1.tr   z0 1  _ _ _ h) (Nat.le_of_ble_eq_true rfl) (Nat.le_of_ble_eq_true rfl) (Nat.le_of_ble_eq_true rfl) hc hs dX13_joins_18 rfl (fun r1 s2 h => ?_)
  refine g_if_eq (np := 24) (tgt := 26) B.1 dX13_joins_21 (by decide) rfl (fun q => ?_) (fun q => ?_)
  · replace h := h.1 q
    refine g_aload_n (np := 27) B.1 dX13_joins_26 rfl rfl ?_
    refine g_iconst (np := 28) (v := 0) B.1 dX13_joins_27 (by decide) rfl ?_
    refine g_aload_n (np := 29) B.1 dX13_joins_28 rfl rfl ?_
    refine gf_YModel_9_15 (np := 32) B.1 dX13_joins_29 rfl ?_
    refine g_bipush (np := 34) (v := 13) B.1 dX13_joins_32 (by decide) rfl ?_
    refine g_ialdL (np := 35) B.1 10 8 (by decide) rfl rfl 13 (by decide) (vpl (by decide)) dX13_joins_34 rfl ?_
    refine g_iconst (np := 36) (v := 1) B.1 dX13_joins_35 (by decide) rfl ?_
    refine g_isub (np := 37) B.1 dX13_joins_36 rfl ?_
    refine gc_YModel_126 (np := 40) B   (oX13_spliced B.1.tr   0 ((rd s2 10 8 13) - 1)  _ _ _ h) (Nat.le_of_ble_eq_true rfl) (Nat.le_of_ble_eq_true rfl) (Nat.le_of_ble_eq_true rfl) hc hs dX13_joins_37 rfl (fun r3 s4 h => ?_)
    refine g_istore_n (np := 41) (lv' := [some (.ref (xad (fX K) 15 0)), some (.int r3), none]) B.1 dX13_joins_40 (by decide) rfl rfl rfl ?_
    refine g_aload_n (np := 42) B.1 dX13_joins_41 rfl rfl ?_
    refine gf_YModel_9_15 (np := 45) B.1 dX13_joins_42 rfl ?_
    refine g_iconst (np := 46) (v := 2) B.1 dX13_joins_45 (by decide) rfl ?_
    refine g_dup2 (np := 47) B.1 dX13_joins_46 rfl rfl rfl ?_
    refine g_ialdL (np := 48) B.1 10 8 (by decide) rfl rfl 2 (by decide) (vpl (by decide)) dX13_joins_47 rfl ?_
    refine g_aload_n (np := 49) B.1 dX13_joins_48 rfl rfl ?_
    refine gc_YModel_129 (np := 52) B   (oX13_cost B.1.tr     _ _ _ h) (Nat.le_of_ble_eq_true rfl) (Nat.le_of_ble_eq_true rfl) (Nat.le_of_ble_eq_true rfl) hc hs dX13_joins_49 rfl (fun r5 s6 h => ?_)
    refine g_iadd (np := 53) B.1 dX13_joins_52 rfl ?_
    refine g_iastL (np := 54) B.1 10 8 (by decide) rfl (fun _ _ => rfl) 2 (by decide) (vpl (by decide)) dX13_joins_53 rfl ?_
    refine g_mem (fun s7 es7 => ?_)
    replace h := h s7 es7
    refine g_aload_n (np := 55) B.1 dX13_joins_54 rfl rfl ?_
    refine gf_YModel_9_15 (np := 58) B.1 dX13_joins_55 rfl ?_
    refine g_bipush (np := 60) (v := 7) B.1 dX13_joins_58 (by decide) rfl ?_
    refine g_dup2 (np := 61) B.1 dX13_joins_60 rfl rfl rfl ?_
    refine g_ialdL (np := 62) B.1 10 8 (by decide) rfl rfl 7 (by decide) (vpl (by decide)) dX13_joins_61 rfl ?_
    refine g_aload_n (np := 63) B.1 dX13_joins_62 rfl rfl ?_
    refine gf_YModel_9_15 (np := 66) B.1 dX13_joins_63 rfl ?_
    refine g_bipush (np := 68) (v := 13) B.1 dX13_joins_66 (by decide) rfl ?_
    refine g_ialdL (np := 69) B.1 10 8 (by decide) rfl rfl 13 (by decide) (vpl (by decide)) dX13_joins_68 rfl ?_
    refine g_iconst (np := 70) (v := 1) B.1 dX13_joins_69 (by decide) rfl ?_
    refine g_isub (np := 71) B.1 dX13_joins_70 rfl ?_
    refine g_iadd (np := 72) B.1 dX13_joins_71 rfl ?_
    refine g_iastL (np := 73) B.1 10 8 (by decide) rfl (fun _ _ => rfl) 7 (by decide) (vpl (by decide)) dX13_joins_72 rfl ?_
    refine g_mem (fun s8 es8 => ?_)
    replace h := h s8 es8
    refine g_iconst (np := 74) (v := 1) B.1 dX13_joins_73 (by decide) rfl ?_
    refine g_istore_n (np := 75) (lv' := [some (.ref (xad (fX K) 15 0)), some (.int r3), some (.int 1)]) B.1 dX13_joins_74 (by decide) rfl rfl rfl ?_
    obtain ⟨m15, h⟩ := h
    refine Go.lle [some (.ref (xad (fX K) 15 0)), some (.int r3), some (.int 1)] (by simp [lle]) ?_
    refine oX13_joins_75 B    (fun x1_11 s12 h => ?_) hc hs m15 r3 1  s8 h
    refine g_aload_n (np := 98) B.1 dX13_joins_97 rfl rfl ?_
    refine gf_YModel_9_15 (np := 101) B.1 dX13_joins_98 rfl ?_
    refine g_bipush (np := 103) (v := 78) B.1 dX13_joins_101 (by decide) rfl ?_
    refine g_iload_n (np := 104) B.1 dX13_joins_103 rfl rfl ?_
    refine g_iastL (np := 105) B.1 10 8 (by decide) rfl (fun _ _ => rfl) 78 (by decide) (vpl (by decide)) dX13_joins_104 rfl ?_
    refine g_mem (fun s13 es13 => ?_)
    replace h := h s13 es13
    refine g_aload_n (np := 106) B.1 dX13_joins_105 rfl rfl ?_
    refine gf_YModel_9_15 (np := 109) B.1 dX13_joins_106 rfl ?_
    refine g_bipush (np := 111) (v := 13) B.1 dX13_joins_109 (by decide) rfl ?_
    refine g_iconst (np := 112) (v := 1) B.1 dX13_joins_111 (by decide) rfl ?_
    refine g_iastL (np := 113) B.1 10 8 (by decide) rfl (fun _ _ => rfl) 13 (by decide) (vpl (by decide)) dX13_joins_112 rfl ?_
    refine g_mem (fun s14 es14 => ?_)
    replace h := h s14 es14
    refine g_iload_n (np := 114) B.1 dX13_joins_113 rfl rfl ?_
    exact g_iret B (ty := .int) rfl rfl hc hs dX13_joins_114 ⟨_, rfl, h⟩
  · replace h := h.2 q
    refine g_iconst (np := 25) (v := 0) B.1 dX13_joins_24 (by decide) rfl ?_
    exact g_iret B (ty := .int) rfl rfl hc hs dX13_joins_25 ⟨_, rfl, h⟩
set_option maxRecDepth 20000 in
set_option maxHeartbeats 4000000 in
theorem oX13_joins {l : Launch} {x : Ctx} (hl : l.stackTraces = false)     (s0 : Mem) (Q : Int32 → Mem → Prop) (E : String → Mem → Prop) (h : wX13_joins   s0 Q E) : MetG l x yX13_joins cX13_joins 3 (some .int) 2 49 0 0 [.ref (xad x 15 0)] s0 (RI Q) E := by
  refine MetG.of hl (by decide) (Nat.le_of_ble_eq_true rfl) [some (.ref (xad x 15 0)), none, none] rfl (fun K B hx _ => ?_)
  subst hx
  unfold wX13_joins at h
  refine g_aload_n (np := 1) B.1 dX13_joins_0 rfl rfl ?_
  refine g_aload_n (np := 2) B.1 dX13_joins_1 rfl rfl ?_
  refine gf_YModel_9_15 (np := 5) B.1 dX13_joins_2 rfl ?_
  refine g_bipush (np := 7) (v := 13) B.1 dX13_joins_5 (by decide) rfl ?_
  refine g_ialdL (np := 8) B.1 10 8 (by decide) rfl rfl 13 (by decide) (vpl (by decide)) dX13_joins_7 rfl ?_
  refine g_iconst (np := 9) (v := 2) B.1 dX13_joins_8 (by decide) rfl ?_
  refine g_icmp_ge (np := 12) (tgt := 16) B.1 dX13_joins_9 (by decide) rfl (fun q => ?_) (fun q => ?_)
  · replace h := h.1 q
    refine g_iconst (np := 17) (v := 0) B.1 dX13_joins_16 (by decide) rfl ?_
    refine Go.lle [some (.ref (xad (fX K) 15 0)), none, none] (by simp [lle]) ?_
    refine oX13_joins_17 B     (Nat.le_of_ble_eq_true rfl) (Nat.le_of_ble_eq_true rfl)  0 s0 h
  · replace h := h.2 q
    refine g_iconst (np := 13) (v := 1) B.1 dX13_joins_12 (by decide) rfl ?_
    refine g_goto (tgt := 17) B.1 dX13_joins_13 (by decide) ?_
    refine Go.lle [some (.ref (xad (fX K) 15 0)), none, none] (by simp [lle]) ?_
    refine oX13_joins_17 B     (Nat.le_of_ble_eq_true rfl) (Nat.le_of_ble_eq_true rfl)  1 s0 h
def wX13_spliceAll   (s0 : Mem) (Q : Int32 → Mem → Prop) (E : String → Mem → Prop) : Prop := wX13_keeps   s0 (fun (s2 : Mem) => wX13_joins   s2 (fun (r3 : Int32) (s4 : Mem) => wX13_ends  r3 s4 (fun (r5 : Int32) (s6 : Mem) => Q r5 s6) E) E) E
set_option maxRecDepth 20000 in
set_option maxHeartbeats 4000000 in
theorem oX13_spliceAll {l : Launch} {x : Ctx} (hl : l.stackTraces = false)     (s0 : Mem) (Q : Int32 → Mem → Prop) (E : String → Mem → Prop) (h : wX13_spliceAll   s0 Q E) : MetG l x yX13_spliceAll cX13_spliceAll 1 (some .int) 3 71 0 0 [.ref (xad x 15 0)] s0 (RI Q) E := by
  refine MetG.of hl (by decide) (Nat.le_of_ble_eq_true rfl) [some (.ref (xad x 15 0))] rfl (fun K B hx _ => ?_)
  subst hx
  unfold wX13_spliceAll at h
  refine g_aload_n (np := 1) B.1 dX13_spliceAll_0 rfl rfl ?_
  refine gc_YModel_69 (np := 4) B   (oX13_keeps B.1.tr     _ _ _ h) (Nat.le_of_ble_eq_true rfl) (Nat.le_of_ble_eq_true rfl) (Nat.le_of_ble_eq_true rfl) (Nat.le_of_ble_eq_true rfl) (Nat.le_of_ble_eq_true rfl) dX13_spliceAll_1 rfl (fun s2 h => ?_)
  refine g_aload_n (np := 5) B.1 dX13_spliceAll_4 rfl rfl ?_
  refine g_aload_n (np := 6) B.1 dX13_spliceAll_5 rfl rfl ?_
  refine gc_YModel_133 (np := 9) B   (oX13_joins B.1.tr     _ _ _ h) (Nat.le_of_ble_eq_true rfl) (Nat.le_of_ble_eq_true rfl) (Nat.le_of_ble_eq_true rfl) (Nat.le_of_ble_eq_true rfl) (Nat.le_of_ble_eq_true rfl) dX13_spliceAll_6 rfl (fun r3 s4 h => ?_)
  refine gc_YModel_76 (np := 12) B   (oX13_ends B.1.tr   r3  _ _ _ h) (Nat.le_of_ble_eq_true rfl) (Nat.le_of_ble_eq_true rfl) (Nat.le_of_ble_eq_true rfl) (Nat.le_of_ble_eq_true rfl) (Nat.le_of_ble_eq_true rfl) dX13_spliceAll_9 rfl (fun r5 s6 h => ?_)
  exact g_iret B (ty := .int) rfl rfl (Nat.le_of_ble_eq_true rfl) (Nat.le_of_ble_eq_true rfl) dX13_spliceAll_12 ⟨_, rfl, h⟩
def wX13_worth  (a1 : Int32) (s0 : Mem) (Q : Int32 → Mem → Prop) (E : String → Mem → Prop) : Prop := vp_in (78 + a1) (iaLen 8) ∧ ∀ v2_1 : Int32, v2_1 = (rd s0 10 8 (78 + a1).toNatClampNeg) → ((v2_1 < 10 → Q (2 * v2_1) s0) ∧ (¬ v2_1 < 10 → Q (5 * v2_1) s0))
set_option maxRecDepth 20000 in
set_option maxHeartbeats 4000000 in
theorem oX13_worth {l : Launch} {x : Ctx} (hl : l.stackTraces = false)   (a1 : Int32)  (s0 : Mem) (Q : Int32 → Mem → Prop) (E : String → Mem → Prop) (h : wX13_worth  a1 s0 Q E) : MetG l x yX13_worth cX13_worth 3 (some .int) 0 0 0 0 [.ref (xad x 15 0), .int a1] s0 (RI Q) E := by
  refine MetG.of hl (by decide) (Nat.le_of_ble_eq_true rfl) [some (.ref (xad x 15 0)), some (.int a1), none] rfl (fun K B hx _ => ?_)
  subst hx
  unfold wX13_worth at h
  refine g_aload_n (np := 1) B.1 dX13_worth_0 rfl rfl ?_
  refine gf_YModel_9_15 (np := 4) B.1 dX13_worth_1 rfl ?_
  refine g_bipush (np := 6) (v := 78) B.1 dX13_worth_4 (by decide) rfl ?_
  refine g_iload_n (np := 7) B.1 dX13_worth_6 rfl rfl ?_
  refine g_iadd (np := 8) B.1 dX13_worth_7 rfl ?_
  refine g_iald (np := 9) B.1 10 8 (by decide) rfl rfl h.1 dX13_worth_8 rfl ?_
  replace h := h.2
  refine g_topi (fun v2_1 ev2_1 => ?_)
  replace h := h v2_1 ev2_1
  refine g_istore_n (np := 10) (lv' := [some (.ref (xad (fX K) 15 0)), some (.int a1), some (.int v2_1)]) B.1 dX13_worth_9 (by decide) rfl rfl rfl ?_
  refine g_iload_n (np := 11) B.1 dX13_worth_10 rfl rfl ?_
  refine g_bipush (np := 13) (v := 10) B.1 dX13_worth_11 (by decide) rfl ?_
  refine g_icmp_lt (np := 16) (tgt := 22) B.1 dX13_worth_13 (by decide) rfl (fun q => ?_) (fun q => ?_)
  · replace h := h.1 q
    refine g_iconst (np := 23) (v := 2) B.1 dX13_worth_22 (by decide) rfl ?_
    refine g_iload_n (np := 24) B.1 dX13_worth_23 rfl rfl ?_
    refine g_imul (np := 25) B.1 dX13_worth_24 rfl ?_
    exact g_iret B (ty := .int) rfl rfl (Nat.le_of_ble_eq_true rfl) (Nat.le_of_ble_eq_true rfl) dX13_worth_25 ⟨_, rfl, h⟩
  · replace h := h.2 q
    refine g_iconst (np := 17) (v := 5) B.1 dX13_worth_16 (by decide) rfl ?_
    refine g_iload_n (np := 18) B.1 dX13_worth_17 rfl rfl ?_
    refine g_imul (np := 19) B.1 dX13_worth_18 rfl ?_
    refine g_goto (tgt := 25) B.1 dX13_worth_19 (by decide) ?_
    exact g_iret B (ty := .int) rfl rfl (Nat.le_of_ble_eq_true rfl) (Nat.le_of_ble_eq_true rfl) dX13_worth_25 ⟨_, rfl, h⟩
def wX13_sells_14   (Q : Int32 → Mem → Prop) (E : String → Mem → Prop)   : Int32 → Int32 → Mem → Prop := fun v1 z0 s0 => wX13_isThrown  z0 1 s0 (fun (r3 : Int32) (s4 : Mem) => ((r3 = 0 → wX13_worth  v1 s4 (fun (r5 : Int32) (s6 : Mem) => ∀ s7 : Mem, s7 = wr s6 10 8 0 ((rd s6 10 8 0) + r5) → ∀ s8 : Mem, s8 = wr s7 10 8 5 ((rd s7 10 8 5) + r5) → vp_in (78 + v1) (iaLen 8) ∧ ∀ s9 : Mem, s9 = wr s8 10 8 8 ((rd s8 10 8 8) + (rd s8 10 8 (78 + v1).toNatClampNeg)) → wX13_closes  (78 + v1) 1 90 s9 (fun (s11 : Mem) => ∀ s12 : Mem, s12 = wr s11 10 8 13 ((rd s11 10 8 13) - 1) → Q r5 s12) E) E) ∧ (¬ r3 = 0 → Q 0 s4))) E
def wX13_sells  (a1 : Int32) (s0 : Mem) (Q : Int32 → Mem → Prop) (E : String → Mem → Prop) : Prop := wX13_isPiece  a1 s0 (fun (r1 : Int32) (s2 : Mem) => ((¬ r1 = 0 → wX13_sells_14   Q E  a1 0 s2) ∧ (r1 = 0 → wX13_sells_14   Q E  a1 1 s2))) E
set_option maxRecDepth 20000 in
set_option maxHeartbeats 4000000 in
theorem oX13_sells_14 {K : Fr} {Q : Int32 → Mem → Prop} {E : String → Mem → Prop} (B : Bd K cX13_sells "YarnMillModel" 3 (some .int) 2 43 0 0 (RI Q) E)     {cells slots : Nat}  (hc : cells ≤ 0) (hs : slots ≤ 0) : ∀ (v1 : Int32) (z0 : Int32) (s0 : Mem), wX13_sells_14   Q E  v1 z0 s0 → Go K cells slots s0 14 [some (.ref (xad (fX K) 15 0)), some (.int v1), none] (.int z0 :: .ref (xad (fX K) 15 0) :: []) := by
  intro v1 z0 s0 h
  unfold wX13_sells_14 at h
  refine g_iconst (np := 15) (v := 1) B.1 dX13_sells_14 (by decide) rfl ?_
  refine gc_YModel_65 (np := 18) B   (oX13_isThrown B.1.tr   z0 1  _ _ _ h) (Nat.le_of_ble_eq_true rfl) (Nat.le_of_ble_eq_true rfl) (Nat.le_of_ble_eq_true rfl) hc hs dX13_sells_15 rfl (fun r3 s4 h => ?_)
  refine g_if_eq (np := 21) (tgt := 23) B.1 dX13_sells_18 (by decide) rfl (fun q => ?_) (fun q => ?_)
  · replace h := h.1 q
    refine g_aload_n (np := 24) B.1 dX13_sells_23 rfl rfl ?_
    refine g_iload_n (np := 25) B.1 dX13_sells_24 rfl rfl ?_
    refine gc_YModel_136 (np := 28) B   (oX13_worth B.1.tr   v1  _ _ _ h) (Nat.le_of_ble_eq_true rfl) (Nat.le_of_ble_eq_true rfl) (Nat.le_of_ble_eq_true rfl) hc hs dX13_sells_25 rfl (fun r5 s6 h => ?_)
    refine g_istore_n (np := 29) (lv' := [some (.ref (xad (fX K) 15 0)), some (.int v1), some (.int r5)]) B.1 dX13_sells_28 (by decide) rfl rfl rfl ?_
    refine g_aload_n (np := 30) B.1 dX13_sells_29 rfl rfl ?_
    refine gf_YModel_9_15 (np := 33) B.1 dX13_sells_30 rfl ?_
    refine g_iconst (np := 34) (v := 0) B.1 dX13_sells_33 (by decide) rfl ?_
    refine g_dup2 (np := 35) B.1 dX13_sells_34 rfl rfl rfl ?_
    refine g_ialdL (np := 36) B.1 10 8 (by decide) rfl rfl 0 (by decide) (vpl (by decide)) dX13_sells_35 rfl ?_
    refine g_iload_n (np := 37) B.1 dX13_sells_36 rfl rfl ?_
    refine g_iadd (np := 38) B.1 dX13_sells_37 rfl ?_
    refine g_iastL (np := 39) B.1 10 8 (by decide) rfl (fun _ _ => rfl) 0 (by decide) (vpl (by decide)) dX13_sells_38 rfl ?_
    refine g_mem (fun s7 es7 => ?_)
    replace h := h s7 es7
    refine g_aload_n (np := 40) B.1 dX13_sells_39 rfl rfl ?_
    refine gf_YModel_9_15 (np := 43) B.1 dX13_sells_40 rfl ?_
    refine g_iconst (np := 44) (v := 5) B.1 dX13_sells_43 (by decide) rfl ?_
    refine g_dup2 (np := 45) B.1 dX13_sells_44 rfl rfl rfl ?_
    refine g_ialdL (np := 46) B.1 10 8 (by decide) rfl rfl 5 (by decide) (vpl (by decide)) dX13_sells_45 rfl ?_
    refine g_iload_n (np := 47) B.1 dX13_sells_46 rfl rfl ?_
    refine g_iadd (np := 48) B.1 dX13_sells_47 rfl ?_
    refine g_iastL (np := 49) B.1 10 8 (by decide) rfl (fun _ _ => rfl) 5 (by decide) (vpl (by decide)) dX13_sells_48 rfl ?_
    refine g_mem (fun s8 es8 => ?_)
    replace h := h s8 es8
    refine g_aload_n (np := 50) B.1 dX13_sells_49 rfl rfl ?_
    refine gf_YModel_9_15 (np := 53) B.1 dX13_sells_50 rfl ?_
    refine g_bipush (np := 55) (v := 8) B.1 dX13_sells_53 (by decide) rfl ?_
    refine g_dup2 (np := 56) B.1 dX13_sells_55 rfl rfl rfl ?_
    refine g_ialdL (np := 57) B.1 10 8 (by decide) rfl rfl 8 (by decide) (vpl (by decide)) dX13_sells_56 rfl ?_
    refine g_aload_n (np := 58) B.1 dX13_sells_57 rfl rfl ?_
    refine gf_YModel_9_15 (np := 61) B.1 dX13_sells_58 rfl ?_
    refine g_bipush (np := 63) (v := 78) B.1 dX13_sells_61 (by decide) rfl ?_
    refine g_iload_n (np := 64) B.1 dX13_sells_63 rfl rfl ?_
    refine g_iadd (np := 65) B.1 dX13_sells_64 rfl ?_
    refine g_iald (np := 66) B.1 10 8 (by decide) rfl rfl h.1 dX13_sells_65 rfl ?_
    replace h := h.2
    refine g_iadd (np := 67) B.1 dX13_sells_66 rfl ?_
    refine g_iastL (np := 68) B.1 10 8 (by decide) rfl (fun _ _ => rfl) 8 (by decide) (vpl (by decide)) dX13_sells_67 rfl ?_
    refine g_mem (fun s9 es9 => ?_)
    replace h := h s9 es9
    refine g_aload_n (np := 69) B.1 dX13_sells_68 rfl rfl ?_
    refine g_bipush (np := 71) (v := 78) B.1 dX13_sells_69 (by decide) rfl ?_
    refine g_iload_n (np := 72) B.1 dX13_sells_71 rfl rfl ?_
    refine g_iadd (np := 73) B.1 dX13_sells_72 rfl ?_
    refine g_iconst (np := 74) (v := 1) B.1 dX13_sells_73 (by decide) rfl ?_
    refine g_bipush (np := 76) (v := 90) B.1 dX13_sells_74 (by decide) rfl ?_
    refine gc_YModel_93 (np := 79) B   (oX13_closes B.1.tr   (78 + v1) 1 90  _ _ _ h) (Nat.le_of_ble_eq_true rfl) (Nat.le_of_ble_eq_true rfl) (Nat.le_of_ble_eq_true rfl) hc hs dX13_sells_76 rfl (fun s11 h => ?_)
    refine g_aload_n (np := 80) B.1 dX13_sells_79 rfl rfl ?_
    refine gf_YModel_9_15 (np := 83) B.1 dX13_sells_80 rfl ?_
    refine g_bipush (np := 85) (v := 13) B.1 dX13_sells_83 (by decide) rfl ?_
    refine g_dup2 (np := 86) B.1 dX13_sells_85 rfl rfl rfl ?_
    refine g_ialdL (np := 87) B.1 10 8 (by decide) rfl rfl 13 (by decide) (vpl (by decide)) dX13_sells_86 rfl ?_
    refine g_iconst (np := 88) (v := 1) B.1 dX13_sells_87 (by decide) rfl ?_
    refine g_isub (np := 89) B.1 dX13_sells_88 rfl ?_
    refine g_iastL (np := 90) B.1 10 8 (by decide) rfl (fun _ _ => rfl) 13 (by decide) (vpl (by decide)) dX13_sells_89 rfl ?_
    refine g_mem (fun s12 es12 => ?_)
    replace h := h s12 es12
    refine g_iload_n (np := 91) B.1 dX13_sells_90 rfl rfl ?_
    exact g_iret B (ty := .int) rfl rfl hc hs dX13_sells_91 ⟨_, rfl, h⟩
  · replace h := h.2 q
    refine g_iconst (np := 22) (v := 0) B.1 dX13_sells_21 (by decide) rfl ?_
    exact g_iret B (ty := .int) rfl rfl hc hs dX13_sells_22 ⟨_, rfl, h⟩
set_option maxRecDepth 20000 in
set_option maxHeartbeats 4000000 in
theorem oX13_sells {l : Launch} {x : Ctx} (hl : l.stackTraces = false)   (a1 : Int32)  (s0 : Mem) (Q : Int32 → Mem → Prop) (E : String → Mem → Prop) (h : wX13_sells  a1 s0 Q E) : MetG l x yX13_sells cX13_sells 3 (some .int) 2 43 0 0 [.ref (xad x 15 0), .int a1] s0 (RI Q) E := by
  refine MetG.of hl (by decide) (Nat.le_of_ble_eq_true rfl) [some (.ref (xad x 15 0)), some (.int a1), none] rfl (fun K B hx _ => ?_)
  subst hx
  unfold wX13_sells at h
  refine g_aload_n (np := 1) B.1 dX13_sells_0 rfl rfl ?_
  refine g_aload_n (np := 2) B.1 dX13_sells_1 rfl rfl ?_
  refine g_iload_n (np := 3) B.1 dX13_sells_2 rfl rfl ?_
  refine gc_YModel_118 (np := 6) B   (oX13_isPiece B.1.tr   a1  _ _ _ h) (Nat.le_of_ble_eq_true rfl) (Nat.le_of_ble_eq_true rfl) (Nat.le_of_ble_eq_true rfl) (Nat.le_of_ble_eq_true rfl) (Nat.le_of_ble_eq_true rfl) dX13_sells_3 rfl (fun r1 s2 h => ?_)
  refine g_if_ne (np := 9) (tgt := 13) B.1 dX13_sells_6 (by decide) rfl (fun q => ?_) (fun q => ?_)
  · replace h := h.1 q
    refine g_iconst (np := 14) (v := 0) B.1 dX13_sells_13 (by decide) rfl ?_
    refine Go.lle [some (.ref (xad (fX K) 15 0)), some (.int a1), none] (by simp [lle]) ?_
    refine oX13_sells_14 B     (Nat.le_of_ble_eq_true rfl) (Nat.le_of_ble_eq_true rfl) a1 0 s2 h
  · replace h := h.2 q
    refine g_iconst (np := 10) (v := 1) B.1 dX13_sells_9 (by decide) rfl ?_
    refine g_goto (tgt := 14) B.1 dX13_sells_10 (by decide) ?_
    refine Go.lle [some (.ref (xad (fX K) 15 0)), some (.int a1), none] (by simp [lle]) ?_
    refine oX13_sells_14 B     (Nat.le_of_ble_eq_true rfl) (Nat.le_of_ble_eq_true rfl) a1 1 s2 h
def wX13_sell  (a1 : Int32) (s0 : Mem) (Q : Int32 → Mem → Prop) (E : String → Mem → Prop) : Prop := wX13_keeps   s0 (fun (s2 : Mem) => wX13_sells  a1 s2 (fun (r3 : Int32) (s4 : Mem) => wX13_ends  r3 s4 (fun (r5 : Int32) (s6 : Mem) => Q r5 s6) E) E) E
set_option maxRecDepth 20000 in
set_option maxHeartbeats 4000000 in
theorem oX13_sell {l : Launch} {x : Ctx} (hl : l.stackTraces = false)   (a1 : Int32)  (s0 : Mem) (Q : Int32 → Mem → Prop) (E : String → Mem → Prop) (h : wX13_sell  a1 s0 Q E) : MetG l x yX13_sell cX13_sell 2 (some .int) 3 65 0 0 [.ref (xad x 15 0), .int a1] s0 (RI Q) E := by
  refine MetG.of hl (by decide) (Nat.le_of_ble_eq_true rfl) [some (.ref (xad x 15 0)), some (.int a1)] rfl (fun K B hx _ => ?_)
  subst hx
  unfold wX13_sell at h
  refine g_aload_n (np := 1) B.1 dX13_sell_0 rfl rfl ?_
  refine gc_YModel_69 (np := 4) B   (oX13_keeps B.1.tr     _ _ _ h) (Nat.le_of_ble_eq_true rfl) (Nat.le_of_ble_eq_true rfl) (Nat.le_of_ble_eq_true rfl) (Nat.le_of_ble_eq_true rfl) (Nat.le_of_ble_eq_true rfl) dX13_sell_1 rfl (fun s2 h => ?_)
  refine g_aload_n (np := 5) B.1 dX13_sell_4 rfl rfl ?_
  refine g_aload_n (np := 6) B.1 dX13_sell_5 rfl rfl ?_
  refine g_iload_n (np := 7) B.1 dX13_sell_6 rfl rfl ?_
  refine gc_YModel_139 (np := 10) B   (oX13_sells B.1.tr   a1  _ _ _ h) (Nat.le_of_ble_eq_true rfl) (Nat.le_of_ble_eq_true rfl) (Nat.le_of_ble_eq_true rfl) (Nat.le_of_ble_eq_true rfl) (Nat.le_of_ble_eq_true rfl) dX13_sell_7 rfl (fun r3 s4 h => ?_)
  refine gc_YModel_76 (np := 13) B   (oX13_ends B.1.tr   r3  _ _ _ h) (Nat.le_of_ble_eq_true rfl) (Nat.le_of_ble_eq_true rfl) (Nat.le_of_ble_eq_true rfl) (Nat.le_of_ble_eq_true rfl) (Nat.le_of_ble_eq_true rfl) dX13_sell_10 rfl (fun r5 s6 h => ?_)
  exact g_iret B (ty := .int) rfl rfl (Nat.le_of_ble_eq_true rfl) (Nat.le_of_ble_eq_true rfl) dX13_sell_13 ⟨_, rfl, h⟩
def wX13_baleCount   (s0 : Mem) (Q : Int32 → Mem → Prop) (E : String → Mem → Prop) : Prop := ∀ s1 : Mem, s1 = wr s0 15 0 7 0 → Q (rd s1 10 8 11) s1
set_option maxRecDepth 20000 in
set_option maxHeartbeats 4000000 in
theorem oX13_baleCount {l : Launch} {x : Ctx} (hl : l.stackTraces = false)     (s0 : Mem) (Q : Int32 → Mem → Prop) (E : String → Mem → Prop) (h : wX13_baleCount   s0 Q E) : MetG l x yX13_baleCount cX13_baleCount 1 (some .int) 0 0 0 0 [.ref (xad x 15 0)] s0 (RI Q) E := by
  refine MetG.of hl (by decide) (Nat.le_of_ble_eq_true rfl) [some (.ref (xad x 15 0))] rfl (fun K B hx _ => ?_)
  subst hx
  unfold wX13_baleCount at h
  refine g_aload_n (np := 1) B.1 dX13_baleCount_0 rfl rfl ?_
  refine g_iconst (np := 2) (v := 0) B.1 dX13_baleCount_1 (by decide) rfl ?_
  refine gp_YModel_44_15 (np := 5) B.1 dX13_baleCount_2 rfl ?_
  refine g_mem (fun s1 es1 => ?_)
  replace h := h s1 es1
  refine g_aload_n (np := 6) B.1 dX13_baleCount_5 rfl rfl ?_
  refine gf_YModel_9_15 (np := 9) B.1 dX13_baleCount_6 rfl ?_
  refine g_bipush (np := 11) (v := 11) B.1 dX13_baleCount_9 (by decide) rfl ?_
  refine g_ialdL (np := 12) B.1 10 8 (by decide) rfl rfl 11 (by decide) (vpl (by decide)) dX13_baleCount_11 rfl ?_
  exact g_iret B (ty := .int) rfl rfl (Nat.le_of_ble_eq_true rfl) (Nat.le_of_ble_eq_true rfl) dX13_baleCount_12 ⟨_, rfl, h⟩
def wX13_baleAt  (a1 : Int32) (s0 : Mem) (Q : Int32 → Mem → Prop) (E : String → Mem → Prop) : Prop := wX13_isIn  a1 0 ((rd s0 10 8 11) - 1) s0 (fun (r1 : Int32) (s2 : Mem) => ((¬ r1 = 0 → wX13_isThrown  0 1 s2 (fun (r3 : Int32) (s4 : Mem) => ((r3 = 0 → wX13_ofBale  a1 0 s4 (fun (r5 : Int32) (s6 : Mem) => Q r5 s6) E) ∧ (¬ r3 = 0 → Q 0 s4))) E) ∧ (r1 = 0 → wX13_isThrown  1 1 s2 (fun (r7 : Int32) (s8 : Mem) => ((r7 = 0 → wX13_ofBale  a1 0 s8 (fun (r9 : Int32) (s10 : Mem) => Q r9 s10) E) ∧ (¬ r7 = 0 → Q 0 s8))) E))) E
set_option maxRecDepth 20000 in
set_option maxHeartbeats 4000000 in
theorem oX13_baleAt {l : Launch} {x : Ctx} (hl : l.stackTraces = false)   (a1 : Int32)  (s0 : Mem) (Q : Int32 → Mem → Prop) (E : String → Mem → Prop) (h : wX13_baleAt  a1 s0 Q E) : MetG l x yX13_baleAt cX13_baleAt 2 (some .int) 1 22 0 0 [.ref (xad x 15 0), .int a1] s0 (RI Q) E := by
  refine MetG.of hl (by decide) (Nat.le_of_ble_eq_true rfl) [some (.ref (xad x 15 0)), some (.int a1)] rfl (fun K B hx _ => ?_)
  subst hx
  unfold wX13_baleAt at h
  refine g_aload_n (np := 1) B.1 dX13_baleAt_0 rfl rfl ?_
  refine g_iload_n (np := 2) B.1 dX13_baleAt_1 rfl rfl ?_
  refine g_iconst (np := 3) (v := 0) B.1 dX13_baleAt_2 (by decide) rfl ?_
  refine g_aload_n (np := 4) B.1 dX13_baleAt_3 rfl rfl ?_
  refine gf_YModel_9_15 (np := 7) B.1 dX13_baleAt_4 rfl ?_
  refine g_bipush (np := 9) (v := 11) B.1 dX13_baleAt_7 (by decide) rfl ?_
  refine g_ialdL (np := 10) B.1 10 8 (by decide) rfl rfl 11 (by decide) (vpl (by decide)) dX13_baleAt_9 rfl ?_
  refine g_iconst (np := 11) (v := 1) B.1 dX13_baleAt_10 (by decide) rfl ?_
  refine g_isub (np := 12) B.1 dX13_baleAt_11 rfl ?_
  refine gc_YModel_61 (np := 15) B   (oX13_isIn B.1.tr   a1 0 ((rd s0 10 8 11) - 1)  _ _ _ h) (Nat.le_of_ble_eq_true rfl) (Nat.le_of_ble_eq_true rfl) (Nat.le_of_ble_eq_true rfl) (Nat.le_of_ble_eq_true rfl) (Nat.le_of_ble_eq_true rfl) dX13_baleAt_12 rfl (fun r1 s2 h => ?_)
  refine g_if_ne (np := 18) (tgt := 22) B.1 dX13_baleAt_15 (by decide) rfl (fun q => ?_) (fun q => ?_)
  · replace h := h.1 q
    refine g_iconst (np := 23) (v := 0) B.1 dX13_baleAt_22 (by decide) rfl ?_
    refine g_iconst (np := 24) (v := 1) B.1 dX13_baleAt_23 (by decide) rfl ?_
    refine gc_YModel_65 (np := 27) B   (oX13_isThrown B.1.tr   0 1  _ _ _ h) (Nat.le_of_ble_eq_true rfl) (Nat.le_of_ble_eq_true rfl) (Nat.le_of_ble_eq_true rfl) (Nat.le_of_ble_eq_true rfl) (Nat.le_of_ble_eq_true rfl) dX13_baleAt_24 rfl (fun r3 s4 h => ?_)
    refine g_if_eq (np := 30) (tgt := 34) B.1 dX13_baleAt_27 (by decide) rfl (fun q => ?_) (fun q => ?_)
    · replace h := h.1 q
      refine g_aload_n (np := 35) B.1 dX13_baleAt_34 rfl rfl ?_
      refine g_iload_n (np := 36) B.1 dX13_baleAt_35 rfl rfl ?_
      refine g_iconst (np := 37) (v := 0) B.1 dX13_baleAt_36 (by decide) rfl ?_
      refine gc_YModel_54 (np := 40) B   (oX13_ofBale B.1.tr   a1 0  _ _ _ h) (Nat.le_of_ble_eq_true rfl) (Nat.le_of_ble_eq_true rfl) (Nat.le_of_ble_eq_true rfl) (Nat.le_of_ble_eq_true rfl) (Nat.le_of_ble_eq_true rfl) dX13_baleAt_37 rfl (fun r5 s6 h => ?_)
      exact g_iret B (ty := .int) rfl rfl (Nat.le_of_ble_eq_true rfl) (Nat.le_of_ble_eq_true rfl) dX13_baleAt_40 ⟨_, rfl, h⟩
    · replace h := h.2 q
      refine g_iconst (np := 31) (v := 0) B.1 dX13_baleAt_30 (by decide) rfl ?_
      refine g_goto (tgt := 40) B.1 dX13_baleAt_31 (by decide) ?_
      exact g_iret B (ty := .int) rfl rfl (Nat.le_of_ble_eq_true rfl) (Nat.le_of_ble_eq_true rfl) dX13_baleAt_40 ⟨_, rfl, h⟩
  · replace h := h.2 q
    refine g_iconst (np := 19) (v := 1) B.1 dX13_baleAt_18 (by decide) rfl ?_
    refine g_goto (tgt := 23) B.1 dX13_baleAt_19 (by decide) ?_
    refine g_iconst (np := 24) (v := 1) B.1 dX13_baleAt_23 (by decide) rfl ?_
    refine gc_YModel_65 (np := 27) B   (oX13_isThrown B.1.tr   1 1  _ _ _ h) (Nat.le_of_ble_eq_true rfl) (Nat.le_of_ble_eq_true rfl) (Nat.le_of_ble_eq_true rfl) (Nat.le_of_ble_eq_true rfl) (Nat.le_of_ble_eq_true rfl) dX13_baleAt_24 rfl (fun r7 s8 h => ?_)
    refine g_if_eq (np := 30) (tgt := 34) B.1 dX13_baleAt_27 (by decide) rfl (fun q => ?_) (fun q => ?_)
    · replace h := h.1 q
      refine g_aload_n (np := 35) B.1 dX13_baleAt_34 rfl rfl ?_
      refine g_iload_n (np := 36) B.1 dX13_baleAt_35 rfl rfl ?_
      refine g_iconst (np := 37) (v := 0) B.1 dX13_baleAt_36 (by decide) rfl ?_
      refine gc_YModel_54 (np := 40) B   (oX13_ofBale B.1.tr   a1 0  _ _ _ h) (Nat.le_of_ble_eq_true rfl) (Nat.le_of_ble_eq_true rfl) (Nat.le_of_ble_eq_true rfl) (Nat.le_of_ble_eq_true rfl) (Nat.le_of_ble_eq_true rfl) dX13_baleAt_37 rfl (fun r9 s10 h => ?_)
      exact g_iret B (ty := .int) rfl rfl (Nat.le_of_ble_eq_true rfl) (Nat.le_of_ble_eq_true rfl) dX13_baleAt_40 ⟨_, rfl, h⟩
    · replace h := h.2 q
      refine g_iconst (np := 31) (v := 0) B.1 dX13_baleAt_30 (by decide) rfl ?_
      refine g_goto (tgt := 40) B.1 dX13_baleAt_31 (by decide) ?_
      exact g_iret B (ty := .int) rfl rfl (Nat.le_of_ble_eq_true rfl) (Nat.le_of_ble_eq_true rfl) dX13_baleAt_40 ⟨_, rfl, h⟩
def wX13_tellsBale  (a1 : Int32) (a2 : Int32) (s0 : Mem) (Q : Int32 → Mem → Prop) (E : String → Mem → Prop) : Prop := wX13_bale  a1 s0 (fun (r1 : Int32) (s2 : Mem) => ((0 ≤ r1 → wX13_isThrown  0 1 s2 (fun (r3 : Int32) (s4 : Mem) => ((r3 = 0 → wX13_bale  a1 s4 (fun (r5 : Int32) (s6 : Mem) => wX13_ofBale  r5 a2 s6 (fun (r7 : Int32) (s8 : Mem) => Q r7 s8) E) E) ∧ (¬ r3 = 0 → Q 0 s4))) E) ∧ (¬ 0 ≤ r1 → wX13_isThrown  1 1 s2 (fun (r9 : Int32) (s10 : Mem) => ((r9 = 0 → wX13_bale  a1 s10 (fun (r11 : Int32) (s12 : Mem) => wX13_ofBale  r11 a2 s12 (fun (r13 : Int32) (s14 : Mem) => Q r13 s14) E) E) ∧ (¬ r9 = 0 → Q 0 s10))) E))) E
set_option maxRecDepth 20000 in
set_option maxHeartbeats 4000000 in
theorem oX13_tellsBale {l : Launch} {x : Ctx} (hl : l.stackTraces = false)   (a1 : Int32) (a2 : Int32)  (s0 : Mem) (Q : Int32 → Mem → Prop) (E : String → Mem → Prop) (h : wX13_tellsBale  a1 a2 s0 Q E) : MetG l x yX13_tellsBale cX13_tellsBale 3 (some .int) 2 44 0 0 [.ref (xad x 15 0), .int a1, .int a2] s0 (RI Q) E := by
  refine MetG.of hl (by decide) (Nat.le_of_ble_eq_true rfl) [some (.ref (xad x 15 0)), some (.int a1), some (.int a2)] rfl (fun K B hx _ => ?_)
  subst hx
  unfold wX13_tellsBale at h
  refine g_aload_n (np := 1) B.1 dX13_tellsBale_0 rfl rfl ?_
  refine g_aload_n (np := 2) B.1 dX13_tellsBale_1 rfl rfl ?_
  refine g_iload_n (np := 3) B.1 dX13_tellsBale_2 rfl rfl ?_
  refine gc_YModel_142 (np := 6) B   (oX13_bale B.1.tr   a1  _ _ _ h) (Nat.le_of_ble_eq_true rfl) (Nat.le_of_ble_eq_true rfl) (Nat.le_of_ble_eq_true rfl) (Nat.le_of_ble_eq_true rfl) (Nat.le_of_ble_eq_true rfl) dX13_tellsBale_3 rfl (fun r1 s2 h => ?_)
  refine g_if_ge (np := 9) (tgt := 13) B.1 dX13_tellsBale_6 (by decide) rfl (fun q => ?_) (fun q => ?_)
  · replace h := h.1 q
    refine g_iconst (np := 14) (v := 0) B.1 dX13_tellsBale_13 (by decide) rfl ?_
    refine g_iconst (np := 15) (v := 1) B.1 dX13_tellsBale_14 (by decide) rfl ?_
    refine gc_YModel_65 (np := 18) B   (oX13_isThrown B.1.tr   0 1  _ _ _ h) (Nat.le_of_ble_eq_true rfl) (Nat.le_of_ble_eq_true rfl) (Nat.le_of_ble_eq_true rfl) (Nat.le_of_ble_eq_true rfl) (Nat.le_of_ble_eq_true rfl) dX13_tellsBale_15 rfl (fun r3 s4 h => ?_)
    refine g_if_eq (np := 21) (tgt := 25) B.1 dX13_tellsBale_18 (by decide) rfl (fun q => ?_) (fun q => ?_)
    · replace h := h.1 q
      refine g_aload_n (np := 26) B.1 dX13_tellsBale_25 rfl rfl ?_
      refine g_aload_n (np := 27) B.1 dX13_tellsBale_26 rfl rfl ?_
      refine g_iload_n (np := 28) B.1 dX13_tellsBale_27 rfl rfl ?_
      refine gc_YModel_142 (np := 31) B   (oX13_bale B.1.tr   a1  _ _ _ h) (Nat.le_of_ble_eq_true rfl) (Nat.le_of_ble_eq_true rfl) (Nat.le_of_ble_eq_true rfl) (Nat.le_of_ble_eq_true rfl) (Nat.le_of_ble_eq_true rfl) dX13_tellsBale_28 rfl (fun r5 s6 h => ?_)
      refine g_iload_n (np := 32) B.1 dX13_tellsBale_31 rfl rfl ?_
      refine gc_YModel_54 (np := 35) B   (oX13_ofBale B.1.tr   r5 a2  _ _ _ h) (Nat.le_of_ble_eq_true rfl) (Nat.le_of_ble_eq_true rfl) (Nat.le_of_ble_eq_true rfl) (Nat.le_of_ble_eq_true rfl) (Nat.le_of_ble_eq_true rfl) dX13_tellsBale_32 rfl (fun r7 s8 h => ?_)
      exact g_iret B (ty := .int) rfl rfl (Nat.le_of_ble_eq_true rfl) (Nat.le_of_ble_eq_true rfl) dX13_tellsBale_35 ⟨_, rfl, h⟩
    · replace h := h.2 q
      refine g_iconst (np := 22) (v := 0) B.1 dX13_tellsBale_21 (by decide) rfl ?_
      refine g_goto (tgt := 35) B.1 dX13_tellsBale_22 (by decide) ?_
      exact g_iret B (ty := .int) rfl rfl (Nat.le_of_ble_eq_true rfl) (Nat.le_of_ble_eq_true rfl) dX13_tellsBale_35 ⟨_, rfl, h⟩
  · replace h := h.2 q
    refine g_iconst (np := 10) (v := 1) B.1 dX13_tellsBale_9 (by decide) rfl ?_
    refine g_goto (tgt := 14) B.1 dX13_tellsBale_10 (by decide) ?_
    refine g_iconst (np := 15) (v := 1) B.1 dX13_tellsBale_14 (by decide) rfl ?_
    refine gc_YModel_65 (np := 18) B   (oX13_isThrown B.1.tr   1 1  _ _ _ h) (Nat.le_of_ble_eq_true rfl) (Nat.le_of_ble_eq_true rfl) (Nat.le_of_ble_eq_true rfl) (Nat.le_of_ble_eq_true rfl) (Nat.le_of_ble_eq_true rfl) dX13_tellsBale_15 rfl (fun r9 s10 h => ?_)
    refine g_if_eq (np := 21) (tgt := 25) B.1 dX13_tellsBale_18 (by decide) rfl (fun q => ?_) (fun q => ?_)
    · replace h := h.1 q
      refine g_aload_n (np := 26) B.1 dX13_tellsBale_25 rfl rfl ?_
      refine g_aload_n (np := 27) B.1 dX13_tellsBale_26 rfl rfl ?_
      refine g_iload_n (np := 28) B.1 dX13_tellsBale_27 rfl rfl ?_
      refine gc_YModel_142 (np := 31) B   (oX13_bale B.1.tr   a1  _ _ _ h) (Nat.le_of_ble_eq_true rfl) (Nat.le_of_ble_eq_true rfl) (Nat.le_of_ble_eq_true rfl) (Nat.le_of_ble_eq_true rfl) (Nat.le_of_ble_eq_true rfl) dX13_tellsBale_28 rfl (fun r11 s12 h => ?_)
      refine g_iload_n (np := 32) B.1 dX13_tellsBale_31 rfl rfl ?_
      refine gc_YModel_54 (np := 35) B   (oX13_ofBale B.1.tr   r11 a2  _ _ _ h) (Nat.le_of_ble_eq_true rfl) (Nat.le_of_ble_eq_true rfl) (Nat.le_of_ble_eq_true rfl) (Nat.le_of_ble_eq_true rfl) (Nat.le_of_ble_eq_true rfl) dX13_tellsBale_32 rfl (fun r13 s14 h => ?_)
      exact g_iret B (ty := .int) rfl rfl (Nat.le_of_ble_eq_true rfl) (Nat.le_of_ble_eq_true rfl) dX13_tellsBale_35 ⟨_, rfl, h⟩
    · replace h := h.2 q
      refine g_iconst (np := 22) (v := 0) B.1 dX13_tellsBale_21 (by decide) rfl ?_
      refine g_goto (tgt := 35) B.1 dX13_tellsBale_22 (by decide) ?_
      exact g_iret B (ty := .int) rfl rfl (Nat.le_of_ble_eq_true rfl) (Nat.le_of_ble_eq_true rfl) dX13_tellsBale_35 ⟨_, rfl, h⟩
def wX13_weight  (a1 : Int32) (s0 : Mem) (Q : Int32 → Mem → Prop) (E : String → Mem → Prop) : Prop := wX13_tellsBale  a1 1 s0 (fun (r1 : Int32) (s2 : Mem) => Q r1 s2) E
set_option maxRecDepth 20000 in
set_option maxHeartbeats 4000000 in
theorem oX13_weight {l : Launch} {x : Ctx} (hl : l.stackTraces = false)   (a1 : Int32)  (s0 : Mem) (Q : Int32 → Mem → Prop) (E : String → Mem → Prop) (h : wX13_weight  a1 s0 Q E) : MetG l x yX13_weight cX13_weight 2 (some .int) 3 66 0 0 [.ref (xad x 15 0), .int a1] s0 (RI Q) E := by
  refine MetG.of hl (by decide) (Nat.le_of_ble_eq_true rfl) [some (.ref (xad x 15 0)), some (.int a1)] rfl (fun K B hx _ => ?_)
  subst hx
  unfold wX13_weight at h
  refine g_aload_n (np := 1) B.1 dX13_weight_0 rfl rfl ?_
  refine g_iload_n (np := 2) B.1 dX13_weight_1 rfl rfl ?_
  refine g_iconst (np := 3) (v := 1) B.1 dX13_weight_2 (by decide) rfl ?_
  refine gc_YModel_145 (np := 6) B   (oX13_tellsBale B.1.tr   a1 1  _ _ _ h) (Nat.le_of_ble_eq_true rfl) (Nat.le_of_ble_eq_true rfl) (Nat.le_of_ble_eq_true rfl) (Nat.le_of_ble_eq_true rfl) (Nat.le_of_ble_eq_true rfl) dX13_weight_3 rfl (fun r1 s2 h => ?_)
  exact g_iret B (ty := .int) rfl rfl (Nat.le_of_ble_eq_true rfl) (Nat.le_of_ble_eq_true rfl) dX13_weight_6 ⟨_, rfl, h⟩
def wX13_staple  (a1 : Int32) (s0 : Mem) (Q : Int32 → Mem → Prop) (E : String → Mem → Prop) : Prop := wX13_tellsBale  a1 2 s0 (fun (r1 : Int32) (s2 : Mem) => Q r1 s2) E
set_option maxRecDepth 20000 in
set_option maxHeartbeats 4000000 in
theorem oX13_staple {l : Launch} {x : Ctx} (hl : l.stackTraces = false)   (a1 : Int32)  (s0 : Mem) (Q : Int32 → Mem → Prop) (E : String → Mem → Prop) (h : wX13_staple  a1 s0 Q E) : MetG l x yX13_staple cX13_staple 2 (some .int) 3 66 0 0 [.ref (xad x 15 0), .int a1] s0 (RI Q) E := by
  refine MetG.of hl (by decide) (Nat.le_of_ble_eq_true rfl) [some (.ref (xad x 15 0)), some (.int a1)] rfl (fun K B hx _ => ?_)
  subst hx
  unfold wX13_staple at h
  refine g_aload_n (np := 1) B.1 dX13_staple_0 rfl rfl ?_
  refine g_iload_n (np := 2) B.1 dX13_staple_1 rfl rfl ?_
  refine g_iconst (np := 3) (v := 2) B.1 dX13_staple_2 (by decide) rfl ?_
  refine gc_YModel_145 (np := 6) B   (oX13_tellsBale B.1.tr   a1 2  _ _ _ h) (Nat.le_of_ble_eq_true rfl) (Nat.le_of_ble_eq_true rfl) (Nat.le_of_ble_eq_true rfl) (Nat.le_of_ble_eq_true rfl) (Nat.le_of_ble_eq_true rfl) dX13_staple_3 rfl (fun r1 s2 h => ?_)
  exact g_iret B (ty := .int) rfl rfl (Nat.le_of_ble_eq_true rfl) (Nat.le_of_ble_eq_true rfl) dX13_staple_6 ⟨_, rfl, h⟩
def wX13_price  (a1 : Int32) (s0 : Mem) (Q : Int32 → Mem → Prop) (E : String → Mem → Prop) : Prop := wX13_tellsBale  a1 3 s0 (fun (r1 : Int32) (s2 : Mem) => Q r1 s2) E
set_option maxRecDepth 20000 in
set_option maxHeartbeats 4000000 in
theorem oX13_price {l : Launch} {x : Ctx} (hl : l.stackTraces = false)   (a1 : Int32)  (s0 : Mem) (Q : Int32 → Mem → Prop) (E : String → Mem → Prop) (h : wX13_price  a1 s0 Q E) : MetG l x yX13_price cX13_price 2 (some .int) 3 66 0 0 [.ref (xad x 15 0), .int a1] s0 (RI Q) E := by
  refine MetG.of hl (by decide) (Nat.le_of_ble_eq_true rfl) [some (.ref (xad x 15 0)), some (.int a1)] rfl (fun K B hx _ => ?_)
  subst hx
  unfold wX13_price at h
  refine g_aload_n (np := 1) B.1 dX13_price_0 rfl rfl ?_
  refine g_iload_n (np := 2) B.1 dX13_price_1 rfl rfl ?_
  refine g_iconst (np := 3) (v := 3) B.1 dX13_price_2 (by decide) rfl ?_
  refine gc_YModel_145 (np := 6) B   (oX13_tellsBale B.1.tr   a1 3  _ _ _ h) (Nat.le_of_ble_eq_true rfl) (Nat.le_of_ble_eq_true rfl) (Nat.le_of_ble_eq_true rfl) (Nat.le_of_ble_eq_true rfl) (Nat.le_of_ble_eq_true rfl) dX13_price_3 rfl (fun r1 s2 h => ?_)
  exact g_iret B (ty := .int) rfl rfl (Nat.le_of_ble_eq_true rfl) (Nat.le_of_ble_eq_true rfl) dX13_price_6 ⟨_, rfl, h⟩
def wX13_isDearer  (a1 : Int32) (a2 : Int32) (s0 : Mem) (Q : Int32 → Mem → Prop) (E : String → Mem → Prop) : Prop := wX13_ofBale  a1 1 s0 (fun (r1 : Int32) (s2 : Mem) => wX13_ofBale  a1 3 s2 (fun (r3 : Int32) (s4 : Mem) => wX13_ofBale  a2 1 s4 (fun (r5 : Int32) (s6 : Mem) => wX13_ofBale  a2 3 s6 (fun (r7 : Int32) (s8 : Mem) => ∀ v3_9 : Int32, v3_9 = ((r1 * r3) - (r5 * r7)) → ((v3_9 = 0 → wX13_ofBale  a1 2 s8 (fun (r10 : Int32) (s11 : Mem) => wX13_ofBale  a2 2 s11 (fun (r12 : Int32) (s13 : Mem) => ((r10 = r12 → ((a2 ≤ a1 → Q 0 s13) ∧ (¬ a2 ≤ a1 → Q 1 s13))) ∧ (¬ r10 = r12 → wX13_ofBale  a1 2 s13 (fun (r14 : Int32) (s15 : Mem) => wX13_ofBale  a2 2 s15 (fun (r16 : Int32) (s17 : Mem) => ((r14 ≤ r16 → Q 0 s17) ∧ (¬ r14 ≤ r16 → Q 1 s17))) E) E))) E) E) ∧ (¬ v3_9 = 0 → ((v3_9 ≤ 0 → Q 0 s8) ∧ (¬ v3_9 ≤ 0 → Q 1 s8))))) E) E) E) E
set_option maxRecDepth 20000 in
set_option maxHeartbeats 4000000 in
theorem oX13_isDearer {l : Launch} {x : Ctx} (hl : l.stackTraces = false)   (a1 : Int32) (a2 : Int32)  (s0 : Mem) (Q : Int32 → Mem → Prop) (E : String → Mem → Prop) (h : wX13_isDearer  a1 a2 s0 Q E) : MetG l x yX13_isDearer cX13_isDearer 4 (some .boolean) 1 22 0 0 [.ref (xad x 15 0), .int a1, .int a2] s0 (RI Q) E := by
  refine MetG.of hl (by decide) (Nat.le_of_ble_eq_true rfl) [some (.ref (xad x 15 0)), some (.int a1), some (.int a2), none] rfl (fun K B hx _ => ?_)
  subst hx
  unfold wX13_isDearer at h
  refine g_aload_n (np := 1) B.1 dX13_isDearer_0 rfl rfl ?_
  refine g_iload_n (np := 2) B.1 dX13_isDearer_1 rfl rfl ?_
  refine g_iconst (np := 3) (v := 1) B.1 dX13_isDearer_2 (by decide) rfl ?_
  refine gc_YModel_54 (np := 6) B   (oX13_ofBale B.1.tr   a1 1  _ _ _ h) (Nat.le_of_ble_eq_true rfl) (Nat.le_of_ble_eq_true rfl) (Nat.le_of_ble_eq_true rfl) (Nat.le_of_ble_eq_true rfl) (Nat.le_of_ble_eq_true rfl) dX13_isDearer_3 rfl (fun r1 s2 h => ?_)
  refine g_aload_n (np := 7) B.1 dX13_isDearer_6 rfl rfl ?_
  refine g_iload_n (np := 8) B.1 dX13_isDearer_7 rfl rfl ?_
  refine g_iconst (np := 9) (v := 3) B.1 dX13_isDearer_8 (by decide) rfl ?_
  refine gc_YModel_54 (np := 12) B   (oX13_ofBale B.1.tr   a1 3  _ _ _ h) (Nat.le_of_ble_eq_true rfl) (Nat.le_of_ble_eq_true rfl) (Nat.le_of_ble_eq_true rfl) (Nat.le_of_ble_eq_true rfl) (Nat.le_of_ble_eq_true rfl) dX13_isDearer_9 rfl (fun r3 s4 h => ?_)
  refine g_imul (np := 13) B.1 dX13_isDearer_12 rfl ?_
  refine g_aload_n (np := 14) B.1 dX13_isDearer_13 rfl rfl ?_
  refine g_iload_n (np := 15) B.1 dX13_isDearer_14 rfl rfl ?_
  refine g_iconst (np := 16) (v := 1) B.1 dX13_isDearer_15 (by decide) rfl ?_
  refine gc_YModel_54 (np := 19) B   (oX13_ofBale B.1.tr   a2 1  _ _ _ h) (Nat.le_of_ble_eq_true rfl) (Nat.le_of_ble_eq_true rfl) (Nat.le_of_ble_eq_true rfl) (Nat.le_of_ble_eq_true rfl) (Nat.le_of_ble_eq_true rfl) dX13_isDearer_16 rfl (fun r5 s6 h => ?_)
  refine g_aload_n (np := 20) B.1 dX13_isDearer_19 rfl rfl ?_
  refine g_iload_n (np := 21) B.1 dX13_isDearer_20 rfl rfl ?_
  refine g_iconst (np := 22) (v := 3) B.1 dX13_isDearer_21 (by decide) rfl ?_
  refine gc_YModel_54 (np := 25) B   (oX13_ofBale B.1.tr   a2 3  _ _ _ h) (Nat.le_of_ble_eq_true rfl) (Nat.le_of_ble_eq_true rfl) (Nat.le_of_ble_eq_true rfl) (Nat.le_of_ble_eq_true rfl) (Nat.le_of_ble_eq_true rfl) dX13_isDearer_22 rfl (fun r7 s8 h => ?_)
  refine g_imul (np := 26) B.1 dX13_isDearer_25 rfl ?_
  refine g_isub (np := 27) B.1 dX13_isDearer_26 rfl ?_
  refine g_topi (fun v3_9 ev3_9 => ?_)
  replace h := h v3_9 ev3_9
  refine g_istore_n (np := 28) (lv' := [some (.ref (xad (fX K) 15 0)), some (.int a1), some (.int a2), some (.int v3_9)]) B.1 dX13_isDearer_27 (by decide) rfl rfl rfl ?_
  refine g_iload_n (np := 29) B.1 dX13_isDearer_28 rfl rfl ?_
  refine g_if_eq (np := 32) (tgt := 42) B.1 dX13_isDearer_29 (by decide) rfl (fun q => ?_) (fun q => ?_)
  · replace h := h.1 q
    refine g_aload_n (np := 43) B.1 dX13_isDearer_42 rfl rfl ?_
    refine g_iload_n (np := 44) B.1 dX13_isDearer_43 rfl rfl ?_
    refine g_iconst (np := 45) (v := 2) B.1 dX13_isDearer_44 (by decide) rfl ?_
    refine gc_YModel_54 (np := 48) B   (oX13_ofBale B.1.tr   a1 2  _ _ _ h) (Nat.le_of_ble_eq_true rfl) (Nat.le_of_ble_eq_true rfl) (Nat.le_of_ble_eq_true rfl) (Nat.le_of_ble_eq_true rfl) (Nat.le_of_ble_eq_true rfl) dX13_isDearer_45 rfl (fun r10 s11 h => ?_)
    refine g_aload_n (np := 49) B.1 dX13_isDearer_48 rfl rfl ?_
    refine g_iload_n (np := 50) B.1 dX13_isDearer_49 rfl rfl ?_
    refine g_iconst (np := 51) (v := 2) B.1 dX13_isDearer_50 (by decide) rfl ?_
    refine gc_YModel_54 (np := 54) B   (oX13_ofBale B.1.tr   a2 2  _ _ _ h) (Nat.le_of_ble_eq_true rfl) (Nat.le_of_ble_eq_true rfl) (Nat.le_of_ble_eq_true rfl) (Nat.le_of_ble_eq_true rfl) (Nat.le_of_ble_eq_true rfl) dX13_isDearer_51 rfl (fun r12 s13 h => ?_)
    refine g_icmp_eq (np := 57) (tgt := 80) B.1 dX13_isDearer_54 (by decide) rfl (fun q => ?_) (fun q => ?_)
    · replace h := h.1 q
      refine g_iload_n (np := 81) B.1 dX13_isDearer_80 rfl rfl ?_
      refine g_iload_n (np := 82) B.1 dX13_isDearer_81 rfl rfl ?_
      refine g_icmp_ge (np := 85) (tgt := 89) B.1 dX13_isDearer_82 (by decide) rfl (fun q => ?_) (fun q => ?_)
      · replace h := h.1 q
        refine g_iconst (np := 90) (v := 0) B.1 dX13_isDearer_89 (by decide) rfl ?_
        exact g_iret B (ty := .boolean) rfl (by decide) (Nat.le_of_ble_eq_true rfl) (Nat.le_of_ble_eq_true rfl) dX13_isDearer_90 ⟨_, rfl, h⟩
      · replace h := h.2 q
        refine g_iconst (np := 86) (v := 1) B.1 dX13_isDearer_85 (by decide) rfl ?_
        refine g_goto (tgt := 90) B.1 dX13_isDearer_86 (by decide) ?_
        exact g_iret B (ty := .boolean) rfl (by decide) (Nat.le_of_ble_eq_true rfl) (Nat.le_of_ble_eq_true rfl) dX13_isDearer_90 ⟨_, rfl, h⟩
    · replace h := h.2 q
      refine g_aload_n (np := 58) B.1 dX13_isDearer_57 rfl rfl ?_
      refine g_iload_n (np := 59) B.1 dX13_isDearer_58 rfl rfl ?_
      refine g_iconst (np := 60) (v := 2) B.1 dX13_isDearer_59 (by decide) rfl ?_
      refine gc_YModel_54 (np := 63) B   (oX13_ofBale B.1.tr   a1 2  _ _ _ h) (Nat.le_of_ble_eq_true rfl) (Nat.le_of_ble_eq_true rfl) (Nat.le_of_ble_eq_true rfl) (Nat.le_of_ble_eq_true rfl) (Nat.le_of_ble_eq_true rfl) dX13_isDearer_60 rfl (fun r14 s15 h => ?_)
      refine g_aload_n (np := 64) B.1 dX13_isDearer_63 rfl rfl ?_
      refine g_iload_n (np := 65) B.1 dX13_isDearer_64 rfl rfl ?_
      refine g_iconst (np := 66) (v := 2) B.1 dX13_isDearer_65 (by decide) rfl ?_
      refine gc_YModel_54 (np := 69) B   (oX13_ofBale B.1.tr   a2 2  _ _ _ h) (Nat.le_of_ble_eq_true rfl) (Nat.le_of_ble_eq_true rfl) (Nat.le_of_ble_eq_true rfl) (Nat.le_of_ble_eq_true rfl) (Nat.le_of_ble_eq_true rfl) dX13_isDearer_66 rfl (fun r16 s17 h => ?_)
      refine g_icmp_le (np := 72) (tgt := 76) B.1 dX13_isDearer_69 (by decide) rfl (fun q => ?_) (fun q => ?_)
      · replace h := h.1 q
        refine g_iconst (np := 77) (v := 0) B.1 dX13_isDearer_76 (by decide) rfl ?_
        refine g_goto (tgt := 90) B.1 dX13_isDearer_77 (by decide) ?_
        exact g_iret B (ty := .boolean) rfl (by decide) (Nat.le_of_ble_eq_true rfl) (Nat.le_of_ble_eq_true rfl) dX13_isDearer_90 ⟨_, rfl, h⟩
      · replace h := h.2 q
        refine g_iconst (np := 73) (v := 1) B.1 dX13_isDearer_72 (by decide) rfl ?_
        refine g_goto (tgt := 90) B.1 dX13_isDearer_73 (by decide) ?_
        exact g_iret B (ty := .boolean) rfl (by decide) (Nat.le_of_ble_eq_true rfl) (Nat.le_of_ble_eq_true rfl) dX13_isDearer_90 ⟨_, rfl, h⟩
  · replace h := h.2 q
    refine g_iload_n (np := 33) B.1 dX13_isDearer_32 rfl rfl ?_
    refine g_if_le (np := 36) (tgt := 40) B.1 dX13_isDearer_33 (by decide) rfl (fun q => ?_) (fun q => ?_)
    · replace h := h.1 q
      refine g_iconst (np := 41) (v := 0) B.1 dX13_isDearer_40 (by decide) rfl ?_
      exact g_iret B (ty := .boolean) rfl (by decide) (Nat.le_of_ble_eq_true rfl) (Nat.le_of_ble_eq_true rfl) dX13_isDearer_41 ⟨_, rfl, h⟩
    · replace h := h.2 q
      refine g_iconst (np := 37) (v := 1) B.1 dX13_isDearer_36 (by decide) rfl ?_
      refine g_goto (tgt := 41) B.1 dX13_isDearer_37 (by decide) ?_
      exact g_iret B (ty := .boolean) rfl (by decide) (Nat.le_of_ble_eq_true rfl) (Nat.le_of_ble_eq_true rfl) dX13_isDearer_41 ⟨_, rfl, h⟩
def wX13_baleByValue_18   (Q : Int32 → Mem → Prop) (E : String → Mem → Prop)  (X60 : Int32 → Int32 → Int32 → Mem → Prop) : Nat → Int32 → Int32 → Int32 → Int32 → Mem → Prop
  | 0, _, _, _, _, _ => False
  | n18 + 1, v1, v2, v3, v4, s0 => ((rd s0 10 8 11 ≤ v4 → X60 v1 v2 v3 s0) ∧ (¬ rd s0 10 8 11 ≤ v4 → ((v4 = v2 → ∀ v3_1 : Int32, v3_1 = (v3 + 0) → ∀ v4_2 : Int32, v4_2 = (v4 + 1) → wX13_baleByValue_18   Q E X60 n18 v1 v2 v3_1 v4_2 s0) ∧ (¬ v4 = v2 → wX13_isDearer  v4 v2 s0 (fun (r3 : Int32) (s4 : Mem) => ((r3 = 0 → ∀ v3_5 : Int32, v3_5 = (v3 + 0) → ∀ v4_6 : Int32, v4_6 = (v4 + 1) → wX13_baleByValue_18   Q E X60 n18 v1 v2 v3_5 v4_6 s4) ∧ (¬ r3 = 0 → ∀ v3_7 : Int32, v3_7 = (v3 + 1) → ∀ v4_8 : Int32, v4_8 = (v4 + 1) → wX13_baleByValue_18   Q E X60 n18 v1 v2 v3_7 v4_8 s4))) E))))
def wX13_baleByValue_2   (Q : Int32 → Mem → Prop) (E : String → Mem → Prop)  (X65 : Int32 → Mem → Prop) (X83 : Mem → Prop) : Nat → Int32 → Int32 → Mem → Prop
  | 0, _, _, _ => False
  | n2 + 1, v1, v2, s0 => ((rd s0 10 8 11 ≤ v2 → X83  s0) ∧ (¬ rd s0 10 8 11 ≤ v2 → ∃ m14 : Nat, wX13_baleByValue_18   Q E (fun (x1_9 : Int32) (x2_10 : Int32) (x3_11 : Int32) (s12 : Mem) => ((¬ x3_11 = x1_9 → ∀ v2_13 : Int32, v2_13 = (x2_10 + 1) → wX13_baleByValue_2   Q E X65 X83 n2 x1_9 v2_13 s12) ∧ (x3_11 = x1_9 → X65 x2_10 s12))) m14 v1 v2 0 0  s0))
def wX13_baleByValue  (a1 : Int32) (s0 : Mem) (Q : Int32 → Mem → Prop) (E : String → Mem → Prop) : Prop := ∃ m22 : Nat, wX13_baleByValue_2   Q E (fun (x2_15 : Int32) (s16 : Mem) => ∀ s17 : Mem, s17 = wr s16 15 0 7 0 → wX13_ofBale  x2_15 0 s17 (fun (r18 : Int32) (s19 : Mem) => Q r18 s19) E) (fun (s20 : Mem) => ∀ s21 : Mem, s21 = wr s20 15 0 7 1 → Q 0 s21) m22 a1 0  s0
set_option maxRecDepth 20000 in
set_option maxHeartbeats 4000000 in
theorem oX13_baleByValue_18 {K : Fr} {Q : Int32 → Mem → Prop} {E : String → Mem → Prop} (B : Bd K cX13_baleByValue "YarnMillModel" 5 (some .int) 2 45 0 0 (RI Q) E)    {X60 : Int32 → Int32 → Int32 → Mem → Prop} {cells slots : Nat} (hX60 : ∀ (y1 : Int32) (y2 : Int32) (y3 : Int32) (τ : Mem), X60 y1 y2 y3 τ → Go K cells slots τ 60 [some (.ref (xad (fX K) 15 0)), some (.int y1), some (.int y2), some (.int y3), none] ([])) (hc : cells ≤ 0) (hs : slots ≤ 0) : ∀ (n : Nat) (v1 : Int32) (v2 : Int32) (v3 : Int32) (v4 : Int32) (s0 : Mem), wX13_baleByValue_18   Q E X60 n v1 v2 v3 v4 s0 → Go K cells slots s0 18 [some (.ref (xad (fX K) 15 0)), some (.int v1), some (.int v2), some (.int v3), some (.int v4)] ([]) := by
  intro n
  induction n with
  | zero => intro v1 v2 v3 v4 s0 h; exact absurd h (by simp [wX13_baleByValue_18])
  | succ n ih =>
    intro v1 v2 v3 v4 s0 h
    simp only [wX13_baleByValue_18] at h
    refine g_iload (np := 20) B.1 dX13_baleByValue_18 rfl rfl ?_
    refine g_aload_n (np := 21) B.1 dX13_baleByValue_20 rfl rfl ?_
    refine gf_YModel_9_15 (np := 24) B.1 dX13_baleByValue_21 rfl ?_
    refine g_bipush (np := 26) (v := 11) B.1 dX13_baleByValue_24 (by decide) rfl ?_
    refine g_ialdL (np := 27) B.1 10 8 (by decide) rfl rfl 11 (by decide) (vpl (by decide)) dX13_baleByValue_26 rfl ?_
    refine g_icmp_ge (np := 30) (tgt := 60) B.1 dX13_baleByValue_27 (by decide) rfl (fun q => ?_) (fun q => ?_)
    · replace h := h.1 q
      refine Go.lle [some (.ref (xad (fX K) 15 0)), some (.int v1), some (.int v2), some (.int v3), none] (by simp [lle]) ?_
      exact hX60 v1 v2 v3 s0 h
    · replace h := h.2 q
      refine g_iload_n (np := 31) B.1 dX13_baleByValue_30 rfl rfl ?_
      refine g_iload (np := 33) B.1 dX13_baleByValue_31 rfl rfl ?_
      refine g_iload_n (np := 34) B.1 dX13_baleByValue_33 rfl rfl ?_
      refine g_icmp_eq (np := 37) (tgt := 51) B.1 dX13_baleByValue_34 (by decide) rfl (fun q => ?_) (fun q => ?_)
      · replace h := h.1 q
        refine g_iconst (np := 52) (v := 0) B.1 dX13_baleByValue_51 (by decide) rfl ?_
        refine g_iadd (np := 53) B.1 dX13_baleByValue_52 rfl ?_
        refine g_topi (fun v3_1 ev3_1 => ?_)
        replace h := h v3_1 ev3_1
        refine g_istore_n (np := 54) (lv' := [some (.ref (xad (fX K) 15 0)), some (.int v1), some (.int v2), some (.int v3_1), some (.int v4)]) B.1 dX13_baleByValue_53 (by decide) rfl rfl rfl ?_
        obtain ⟨v4_2, ev4_2⟩ : ∃ y : Int32, y = v4 + 1 := ⟨_, rfl⟩
        replace h := h v4_2 ev4_2
        refine g_iinc (np := 57) (v := v4_2) (lv' := [some (.ref (xad (fX K) 15 0)), some (.int v1), some (.int v2), some (.int v3_1), some (.int v4_2)]) B.1 dX13_baleByValue_54 rfl (by rw [ev4_2]; rfl) (by decide) rfl rfl rfl ?_
        refine g_goto (tgt := 18) B.1 dX13_baleByValue_57 (by decide) ?_
        refine Go.lle [some (.ref (xad (fX K) 15 0)), some (.int v1), some (.int v2), some (.int v3_1), some (.int v4_2)] (by simp [lle]) ?_
        exact ih v1 v2 v3_1 v4_2 s0 h
      · replace h := h.2 q
        refine g_aload_n (np := 38) B.1 dX13_baleByValue_37 rfl rfl ?_
        refine g_iload (np := 40) B.1 dX13_baleByValue_38 rfl rfl ?_
        refine g_iload_n (np := 41) B.1 dX13_baleByValue_40 rfl rfl ?_
        refine gc_YModel_148 (np := 44) B   (oX13_isDearer B.1.tr   v4 v2  _ _ _ h) (Nat.le_of_ble_eq_true rfl) (Nat.le_of_ble_eq_true rfl) (Nat.le_of_ble_eq_true rfl) hc hs dX13_baleByValue_41 rfl (fun r3 s4 h => ?_)
        refine g_if_eq (np := 47) (tgt := 51) B.1 dX13_baleByValue_44 (by decide) rfl (fun q => ?_) (fun q => ?_)
        · replace h := h.1 q
          refine g_iconst (np := 52) (v := 0) B.1 dX13_baleByValue_51 (by decide) rfl ?_
          refine g_iadd (np := 53) B.1 dX13_baleByValue_52 rfl ?_
          refine g_topi (fun v3_5 ev3_5 => ?_)
          replace h := h v3_5 ev3_5
          refine g_istore_n (np := 54) (lv' := [some (.ref (xad (fX K) 15 0)), some (.int v1), some (.int v2), some (.int v3_5), some (.int v4)]) B.1 dX13_baleByValue_53 (by decide) rfl rfl rfl ?_
          obtain ⟨v4_6, ev4_6⟩ : ∃ y : Int32, y = v4 + 1 := ⟨_, rfl⟩
          replace h := h v4_6 ev4_6
          refine g_iinc (np := 57) (v := v4_6) (lv' := [some (.ref (xad (fX K) 15 0)), some (.int v1), some (.int v2), some (.int v3_5), some (.int v4_6)]) B.1 dX13_baleByValue_54 rfl (by rw [ev4_6]; rfl) (by decide) rfl rfl rfl ?_
          refine g_goto (tgt := 18) B.1 dX13_baleByValue_57 (by decide) ?_
          refine Go.lle [some (.ref (xad (fX K) 15 0)), some (.int v1), some (.int v2), some (.int v3_5), some (.int v4_6)] (by simp [lle]) ?_
          exact ih v1 v2 v3_5 v4_6 s4 h
        · replace h := h.2 q
          refine g_iconst (np := 48) (v := 1) B.1 dX13_baleByValue_47 (by decide) rfl ?_
          refine g_goto (tgt := 52) B.1 dX13_baleByValue_48 (by decide) ?_
          refine g_iadd (np := 53) B.1 dX13_baleByValue_52 rfl ?_
          refine g_topi (fun v3_7 ev3_7 => ?_)
          replace h := h v3_7 ev3_7
          refine g_istore_n (np := 54) (lv' := [some (.ref (xad (fX K) 15 0)), some (.int v1), some (.int v2), some (.int v3_7), some (.int v4)]) B.1 dX13_baleByValue_53 (by decide) rfl rfl rfl ?_
          obtain ⟨v4_8, ev4_8⟩ : ∃ y : Int32, y = v4 + 1 := ⟨_, rfl⟩
          replace h := h v4_8 ev4_8
          refine g_iinc (np := 57) (v := v4_8) (lv' := [some (.ref (xad (fX K) 15 0)), some (.int v1), some (.int v2), some (.int v3_7), some (.int v4_8)]) B.1 dX13_baleByValue_54 rfl (by rw [ev4_8]; rfl) (by decide) rfl rfl rfl ?_
          refine g_goto (tgt := 18) B.1 dX13_baleByValue_57 (by decide) ?_
          refine Go.lle [some (.ref (xad (fX K) 15 0)), some (.int v1), some (.int v2), some (.int v3_7), some (.int v4_8)] (by simp [lle]) ?_
          exact ih v1 v2 v3_7 v4_8 s4 h
set_option maxRecDepth 20000 in
set_option maxHeartbeats 4000000 in
theorem oX13_baleByValue_2 {K : Fr} {Q : Int32 → Mem → Prop} {E : String → Mem → Prop} (B : Bd K cX13_baleByValue "YarnMillModel" 5 (some .int) 2 45 0 0 (RI Q) E)    {X65 : Int32 → Mem → Prop} {X83 : Mem → Prop} {cells slots : Nat} (hX65 : ∀ (y2 : Int32) (τ : Mem), X65 y2 τ → Go K cells slots τ 65 [some (.ref (xad (fX K) 15 0)), none, some (.int y2), none, none] ([])) (hX83 : ∀ (τ : Mem), X83  τ → Go K cells slots τ 83 [some (.ref (xad (fX K) 15 0)), none, none, none, none] ([])) (hc : cells ≤ 0) (hs : slots ≤ 0) : ∀ (n : Nat) (v1 : Int32) (v2 : Int32) (s0 : Mem), wX13_baleByValue_2   Q E X65 X83 n v1 v2 s0 → Go K cells slots s0 2 [some (.ref (xad (fX K) 15 0)), some (.int v1), some (.int v2), none, none] ([]) := by
  intro n
  induction n with
  | zero => intro v1 v2 s0 h; exact absurd h (by simp [wX13_baleByValue_2])
  | succ n ih =>
    intro v1 v2 s0 h
    simp only [wX13_baleByValue_2] at h
    refine g_iload_n (np := 3) B.1 dX13_baleByValue_2 rfl rfl ?_
    refine g_aload_n (np := 4) B.1 dX13_baleByValue_3 rfl rfl ?_
    refine gf_YModel_9_15 (np := 7) B.1 dX13_baleByValue_4 rfl ?_
    refine g_bipush (np := 9) (v := 11) B.1 dX13_baleByValue_7 (by decide) rfl ?_
    refine g_ialdL (np := 10) B.1 10 8 (by decide) rfl rfl 11 (by decide) (vpl (by decide)) dX13_baleByValue_9 rfl ?_
    refine g_icmp_ge (np := 13) (tgt := 83) B.1 dX13_baleByValue_10 (by decide) rfl (fun q => ?_) (fun q => ?_)
    · replace h := h.1 q
      refine Go.lle [some (.ref (xad (fX K) 15 0)), none, none, none, none] (by simp [lle]) ?_
      exact hX83  s0 h
    · replace h := h.2 q
      refine g_iconst (np := 14) (v := 0) B.1 dX13_baleByValue_13 (by decide) rfl ?_
      refine g_istore_n (np := 15) (lv' := [some (.ref (xad (fX K) 15 0)), some (.int v1), some (.int v2), some (.int 0), none]) B.1 dX13_baleByValue_14 (by decide) rfl rfl rfl ?_
      refine g_iconst (np := 16) (v := 0) B.1 dX13_baleByValue_15 (by decide) rfl ?_
      refine g_istore (np := 18) (lv' := [some (.ref (xad (fX K) 15 0)), some (.int v1), some (.int v2), some (.int 0), some (.int 0)]) B.1 dX13_baleByValue_16 (by decide) rfl rfl rfl ?_
      obtain ⟨m14, h⟩ := h
      refine Go.lle [some (.ref (xad (fX K) 15 0)), some (.int v1), some (.int v2), some (.int 0), some (.int 0)] (by simp [lle]) ?_
      refine oX13_baleByValue_18 B    (fun x1_9 x2_10 x3_11 s12 h => ?_) hc hs m14 v1 v2 0 0  s0 h
      refine g_iload_n (np := 61) B.1 dX13_baleByValue_60 rfl rfl ?_
      refine g_iload_n (np := 62) B.1 dX13_baleByValue_61 rfl rfl ?_
      refine g_icmp_ne (np := 65) (tgt := 77) B.1 dX13_baleByValue_62 (by decide) rfl (fun q => ?_) (fun q => ?_)
      · replace h := h.1 q
        obtain ⟨v2_13, ev2_13⟩ : ∃ y : Int32, y = x2_10 + 1 := ⟨_, rfl⟩
        replace h := h v2_13 ev2_13
        refine g_iinc (np := 80) (v := v2_13) (lv' := [some (.ref (xad (fX K) 15 0)), some (.int x1_9), some (.int v2_13), some (.int x3_11), none]) B.1 dX13_baleByValue_77 rfl (by rw [ev2_13]; rfl) (by decide) rfl rfl rfl ?_
        refine g_goto (tgt := 2) B.1 dX13_baleByValue_80 (by decide) ?_
        refine Go.lle [some (.ref (xad (fX K) 15 0)), some (.int x1_9), some (.int v2_13), none, none] (by simp [lle]) ?_
        exact ih x1_9 v2_13 s12 h
      · replace h := h.2 q
        refine Go.lle [some (.ref (xad (fX K) 15 0)), none, some (.int x2_10), none, none] (by simp [lle]) ?_
        exact hX65 x2_10 s12 h
set_option maxRecDepth 20000 in
set_option maxHeartbeats 4000000 in
theorem oX13_baleByValue {l : Launch} {x : Ctx} (hl : l.stackTraces = false)   (a1 : Int32)  (s0 : Mem) (Q : Int32 → Mem → Prop) (E : String → Mem → Prop) (h : wX13_baleByValue  a1 s0 Q E) : MetG l x yX13_baleByValue cX13_baleByValue 5 (some .int) 2 45 0 0 [.ref (xad x 15 0), .int a1] s0 (RI Q) E := by
  refine MetG.of hl (by decide) (Nat.le_of_ble_eq_true rfl) [some (.ref (xad x 15 0)), some (.int a1), none, none, none] rfl (fun K B hx _ => ?_)
  subst hx
  unfold wX13_baleByValue at h
  refine g_iconst (np := 1) (v := 0) B.1 dX13_baleByValue_0 (by decide) rfl ?_
  refine g_istore_n (np := 2) (lv' := [some (.ref (xad (fX K) 15 0)), some (.int a1), some (.int 0), none, none]) B.1 dX13_baleByValue_1 (by decide) rfl rfl rfl ?_
  obtain ⟨m22, h⟩ := h
  refine Go.lle [some (.ref (xad (fX K) 15 0)), some (.int a1), some (.int 0), none, none] (by simp [lle]) ?_
  refine oX13_baleByValue_2 B    (fun x2_15 s16 h => ?_) (fun s20 h => ?_) (Nat.le_of_ble_eq_true rfl) (Nat.le_of_ble_eq_true rfl) m22 a1 0  s0 h
  · refine g_aload_n (np := 66) B.1 dX13_baleByValue_65 rfl rfl ?_
    refine g_iconst (np := 67) (v := 0) B.1 dX13_baleByValue_66 (by decide) rfl ?_
    refine gp_YModel_44_15 (np := 70) B.1 dX13_baleByValue_67 rfl ?_
    refine g_mem (fun s17 es17 => ?_)
    replace h := h s17 es17
    refine g_aload_n (np := 71) B.1 dX13_baleByValue_70 rfl rfl ?_
    refine g_iload_n (np := 72) B.1 dX13_baleByValue_71 rfl rfl ?_
    refine g_iconst (np := 73) (v := 0) B.1 dX13_baleByValue_72 (by decide) rfl ?_
    refine gc_YModel_54 (np := 76) B   (oX13_ofBale B.1.tr   x2_15 0  _ _ _ h) (Nat.le_of_ble_eq_true rfl) (Nat.le_of_ble_eq_true rfl) (Nat.le_of_ble_eq_true rfl) (Nat.le_of_ble_eq_true rfl) (Nat.le_of_ble_eq_true rfl) dX13_baleByValue_73 rfl (fun r18 s19 h => ?_)
    exact g_iret B (ty := .int) rfl rfl (Nat.le_of_ble_eq_true rfl) (Nat.le_of_ble_eq_true rfl) dX13_baleByValue_76 ⟨_, rfl, h⟩
  · refine g_aload_n (np := 84) B.1 dX13_baleByValue_83 rfl rfl ?_
    refine g_iconst (np := 85) (v := 1) B.1 dX13_baleByValue_84 (by decide) rfl ?_
    refine gp_YModel_44_15 (np := 88) B.1 dX13_baleByValue_85 rfl ?_
    refine g_mem (fun s21 es21 => ?_)
    replace h := h s21 es21
    refine g_iconst (np := 89) (v := 0) B.1 dX13_baleByValue_88 (by decide) rfl ?_
    exact g_iret B (ty := .int) rfl rfl (Nat.le_of_ble_eq_true rfl) (Nat.le_of_ble_eq_true rfl) dX13_baleByValue_89 ⟨_, rfl, h⟩
def wX13_blendValue  (a1 : Int32) (a2 : Int32) (s0 : Mem) (Q : Int32 → Mem → Prop) (E : String → Mem → Prop) : Prop := wX13_isBlendAsked  a1 a2 s0 (fun (r1 : Int32) (s2 : Mem) => ((¬ r1 = 0 → wX13_isThrown  0 1 s2 (fun (r3 : Int32) (s4 : Mem) => ((r3 = 0 → wX13_best  a1 a2 s4 (fun (r5 : Int32) (s6 : Mem) => ((¬ r5 = 0 → wX13_isThrown  0 2 s6 (fun (r7 : Int32) (s8 : Mem) => ((r7 = 0 → wX13_sum  r5 1 s8 (fun (r9 : Int32) (s10 : Mem) => Q r9 s10) E) ∧ (¬ r7 = 0 → Q 0 s8))) E) ∧ (r5 = 0 → wX13_isThrown  1 2 s6 (fun (r11 : Int32) (s12 : Mem) => ((r11 = 0 → wX13_sum  r5 1 s12 (fun (r13 : Int32) (s14 : Mem) => Q r13 s14) E) ∧ (¬ r11 = 0 → Q 0 s12))) E))) E) ∧ (¬ r3 = 0 → Q 0 s4))) E) ∧ (r1 = 0 → wX13_isThrown  1 1 s2 (fun (r15 : Int32) (s16 : Mem) => ((r15 = 0 → wX13_best  a1 a2 s16 (fun (r17 : Int32) (s18 : Mem) => ((¬ r17 = 0 → wX13_isThrown  0 2 s18 (fun (r19 : Int32) (s20 : Mem) => ((r19 = 0 → wX13_sum  r17 1 s20 (fun (r21 : Int32) (s22 : Mem) => Q r21 s22) E) ∧ (¬ r19 = 0 → Q 0 s20))) E) ∧ (r17 = 0 → wX13_isThrown  1 2 s18 (fun (r23 : Int32) (s24 : Mem) => ((r23 = 0 → wX13_sum  r17 1 s24 (fun (r25 : Int32) (s26 : Mem) => Q r25 s26) E) ∧ (¬ r23 = 0 → Q 0 s24))) E))) E) ∧ (¬ r15 = 0 → Q 0 s16))) E))) E
set_option maxRecDepth 20000 in
set_option maxHeartbeats 4000000 in
theorem oX13_blendValue {l : Launch} {x : Ctx} (hl : l.stackTraces = false)   (a1 : Int32) (a2 : Int32)  (s0 : Mem) (Q : Int32 → Mem → Prop) (E : String → Mem → Prop) (h : wX13_blendValue  a1 a2 s0 Q E) : MetG l x yX13_blendValue cX13_blendValue 4 (some .int) 4 94 0 0 [.ref (xad x 15 0), .int a1, .int a2] s0 (RI Q) E := by
  refine MetG.of hl (by decide) (Nat.le_of_ble_eq_true rfl) [some (.ref (xad x 15 0)), some (.int a1), some (.int a2), none] rfl (fun K B hx _ => ?_)
  subst hx
  unfold wX13_blendValue at h
  refine g_aload_n (np := 1) B.1 dX13_blendValue_0 rfl rfl ?_
  refine g_iload_n (np := 2) B.1 dX13_blendValue_1 rfl rfl ?_
  refine g_iload_n (np := 3) B.1 dX13_blendValue_2 rfl rfl ?_
  refine gc_YModel_87 (np := 6) B   (oX13_isBlendAsked B.1.tr   a1 a2  _ _ _ h) (Nat.le_of_ble_eq_true rfl) (Nat.le_of_ble_eq_true rfl) (Nat.le_of_ble_eq_true rfl) (Nat.le_of_ble_eq_true rfl) (Nat.le_of_ble_eq_true rfl) dX13_blendValue_3 rfl (fun r1 s2 h => ?_)
  refine g_if_ne (np := 9) (tgt := 13) B.1 dX13_blendValue_6 (by decide) rfl (fun q => ?_) (fun q => ?_)
  · replace h := h.1 q
    refine g_iconst (np := 14) (v := 0) B.1 dX13_blendValue_13 (by decide) rfl ?_
    refine g_iconst (np := 15) (v := 1) B.1 dX13_blendValue_14 (by decide) rfl ?_
    refine gc_YModel_65 (np := 18) B   (oX13_isThrown B.1.tr   0 1  _ _ _ h) (Nat.le_of_ble_eq_true rfl) (Nat.le_of_ble_eq_true rfl) (Nat.le_of_ble_eq_true rfl) (Nat.le_of_ble_eq_true rfl) (Nat.le_of_ble_eq_true rfl) dX13_blendValue_15 rfl (fun r3 s4 h => ?_)
    refine g_if_eq (np := 21) (tgt := 23) B.1 dX13_blendValue_18 (by decide) rfl (fun q => ?_) (fun q => ?_)
    · replace h := h.1 q
      refine g_aload_n (np := 24) B.1 dX13_blendValue_23 rfl rfl ?_
      refine g_iload_n (np := 25) B.1 dX13_blendValue_24 rfl rfl ?_
      refine g_iload_n (np := 26) B.1 dX13_blendValue_25 rfl rfl ?_
      refine gc_YModel_90 (np := 29) B   (oX13_best B.1.tr   a1 a2  _ _ _ h) (Nat.le_of_ble_eq_true rfl) (Nat.le_of_ble_eq_true rfl) (Nat.le_of_ble_eq_true rfl) (Nat.le_of_ble_eq_true rfl) (Nat.le_of_ble_eq_true rfl) dX13_blendValue_26 rfl (fun r5 s6 h => ?_)
      refine g_istore_n (np := 30) (lv' := [some (.ref (xad (fX K) 15 0)), some (.int a1), some (.int a2), some (.int r5)]) B.1 dX13_blendValue_29 (by decide) rfl rfl rfl ?_
      refine g_aload_n (np := 31) B.1 dX13_blendValue_30 rfl rfl ?_
      refine g_iload_n (np := 32) B.1 dX13_blendValue_31 rfl rfl ?_
      refine g_if_ne (np := 35) (tgt := 39) B.1 dX13_blendValue_32 (by decide) rfl (fun q => ?_) (fun q => ?_)
      · replace h := h.1 q
        refine g_iconst (np := 40) (v := 0) B.1 dX13_blendValue_39 (by decide) rfl ?_
        refine g_iconst (np := 41) (v := 2) B.1 dX13_blendValue_40 (by decide) rfl ?_
        refine gc_YModel_65 (np := 44) B   (oX13_isThrown B.1.tr   0 2  _ _ _ h) (Nat.le_of_ble_eq_true rfl) (Nat.le_of_ble_eq_true rfl) (Nat.le_of_ble_eq_true rfl) (Nat.le_of_ble_eq_true rfl) (Nat.le_of_ble_eq_true rfl) dX13_blendValue_41 rfl (fun r7 s8 h => ?_)
        refine g_if_eq (np := 47) (tgt := 51) B.1 dX13_blendValue_44 (by decide) rfl (fun q => ?_) (fun q => ?_)
        · replace h := h.1 q
          refine g_aload_n (np := 52) B.1 dX13_blendValue_51 rfl rfl ?_
          refine g_iload_n (np := 53) B.1 dX13_blendValue_52 rfl rfl ?_
          refine g_iconst (np := 54) (v := 1) B.1 dX13_blendValue_53 (by decide) rfl ?_
          refine gc_YModel_80 (np := 57) B   (oX13_sum B.1.tr   r5 1  _ _ _ h) (Nat.le_of_ble_eq_true rfl) (Nat.le_of_ble_eq_true rfl) (Nat.le_of_ble_eq_true rfl) (Nat.le_of_ble_eq_true rfl) (Nat.le_of_ble_eq_true rfl) dX13_blendValue_54 rfl (fun r9 s10 h => ?_)
          exact g_iret B (ty := .int) rfl rfl (Nat.le_of_ble_eq_true rfl) (Nat.le_of_ble_eq_true rfl) dX13_blendValue_57 ⟨_, rfl, h⟩
        · replace h := h.2 q
          refine g_iconst (np := 48) (v := 0) B.1 dX13_blendValue_47 (by decide) rfl ?_
          refine g_goto (tgt := 57) B.1 dX13_blendValue_48 (by decide) ?_
          exact g_iret B (ty := .int) rfl rfl (Nat.le_of_ble_eq_true rfl) (Nat.le_of_ble_eq_true rfl) dX13_blendValue_57 ⟨_, rfl, h⟩
      · replace h := h.2 q
        refine g_iconst (np := 36) (v := 1) B.1 dX13_blendValue_35 (by decide) rfl ?_
        refine g_goto (tgt := 40) B.1 dX13_blendValue_36 (by decide) ?_
        refine g_iconst (np := 41) (v := 2) B.1 dX13_blendValue_40 (by decide) rfl ?_
        refine gc_YModel_65 (np := 44) B   (oX13_isThrown B.1.tr   1 2  _ _ _ h) (Nat.le_of_ble_eq_true rfl) (Nat.le_of_ble_eq_true rfl) (Nat.le_of_ble_eq_true rfl) (Nat.le_of_ble_eq_true rfl) (Nat.le_of_ble_eq_true rfl) dX13_blendValue_41 rfl (fun r11 s12 h => ?_)
        refine g_if_eq (np := 47) (tgt := 51) B.1 dX13_blendValue_44 (by decide) rfl (fun q => ?_) (fun q => ?_)
        · replace h := h.1 q
          refine g_aload_n (np := 52) B.1 dX13_blendValue_51 rfl rfl ?_
          refine g_iload_n (np := 53) B.1 dX13_blendValue_52 rfl rfl ?_
          refine g_iconst (np := 54) (v := 1) B.1 dX13_blendValue_53 (by decide) rfl ?_
          refine gc_YModel_80 (np := 57) B   (oX13_sum B.1.tr   r5 1  _ _ _ h) (Nat.le_of_ble_eq_true rfl) (Nat.le_of_ble_eq_true rfl) (Nat.le_of_ble_eq_true rfl) (Nat.le_of_ble_eq_true rfl) (Nat.le_of_ble_eq_true rfl) dX13_blendValue_54 rfl (fun r13 s14 h => ?_)
          exact g_iret B (ty := .int) rfl rfl (Nat.le_of_ble_eq_true rfl) (Nat.le_of_ble_eq_true rfl) dX13_blendValue_57 ⟨_, rfl, h⟩
        · replace h := h.2 q
          refine g_iconst (np := 48) (v := 0) B.1 dX13_blendValue_47 (by decide) rfl ?_
          refine g_goto (tgt := 57) B.1 dX13_blendValue_48 (by decide) ?_
          exact g_iret B (ty := .int) rfl rfl (Nat.le_of_ble_eq_true rfl) (Nat.le_of_ble_eq_true rfl) dX13_blendValue_57 ⟨_, rfl, h⟩
    · replace h := h.2 q
      refine g_iconst (np := 22) (v := 0) B.1 dX13_blendValue_21 (by decide) rfl ?_
      exact g_iret B (ty := .int) rfl rfl (Nat.le_of_ble_eq_true rfl) (Nat.le_of_ble_eq_true rfl) dX13_blendValue_22 ⟨_, rfl, h⟩
  · replace h := h.2 q
    refine g_iconst (np := 10) (v := 1) B.1 dX13_blendValue_9 (by decide) rfl ?_
    refine g_goto (tgt := 14) B.1 dX13_blendValue_10 (by decide) ?_
    refine g_iconst (np := 15) (v := 1) B.1 dX13_blendValue_14 (by decide) rfl ?_
    refine gc_YModel_65 (np := 18) B   (oX13_isThrown B.1.tr   1 1  _ _ _ h) (Nat.le_of_ble_eq_true rfl) (Nat.le_of_ble_eq_true rfl) (Nat.le_of_ble_eq_true rfl) (Nat.le_of_ble_eq_true rfl) (Nat.le_of_ble_eq_true rfl) dX13_blendValue_15 rfl (fun r15 s16 h => ?_)
    refine g_if_eq (np := 21) (tgt := 23) B.1 dX13_blendValue_18 (by decide) rfl (fun q => ?_) (fun q => ?_)
    · replace h := h.1 q
      refine g_aload_n (np := 24) B.1 dX13_blendValue_23 rfl rfl ?_
      refine g_iload_n (np := 25) B.1 dX13_blendValue_24 rfl rfl ?_
      refine g_iload_n (np := 26) B.1 dX13_blendValue_25 rfl rfl ?_
      refine gc_YModel_90 (np := 29) B   (oX13_best B.1.tr   a1 a2  _ _ _ h) (Nat.le_of_ble_eq_true rfl) (Nat.le_of_ble_eq_true rfl) (Nat.le_of_ble_eq_true rfl) (Nat.le_of_ble_eq_true rfl) (Nat.le_of_ble_eq_true rfl) dX13_blendValue_26 rfl (fun r17 s18 h => ?_)
      refine g_istore_n (np := 30) (lv' := [some (.ref (xad (fX K) 15 0)), some (.int a1), some (.int a2), some (.int r17)]) B.1 dX13_blendValue_29 (by decide) rfl rfl rfl ?_
      refine g_aload_n (np := 31) B.1 dX13_blendValue_30 rfl rfl ?_
      refine g_iload_n (np := 32) B.1 dX13_blendValue_31 rfl rfl ?_
      refine g_if_ne (np := 35) (tgt := 39) B.1 dX13_blendValue_32 (by decide) rfl (fun q => ?_) (fun q => ?_)
      · replace h := h.1 q
        refine g_iconst (np := 40) (v := 0) B.1 dX13_blendValue_39 (by decide) rfl ?_
        refine g_iconst (np := 41) (v := 2) B.1 dX13_blendValue_40 (by decide) rfl ?_
        refine gc_YModel_65 (np := 44) B   (oX13_isThrown B.1.tr   0 2  _ _ _ h) (Nat.le_of_ble_eq_true rfl) (Nat.le_of_ble_eq_true rfl) (Nat.le_of_ble_eq_true rfl) (Nat.le_of_ble_eq_true rfl) (Nat.le_of_ble_eq_true rfl) dX13_blendValue_41 rfl (fun r19 s20 h => ?_)
        refine g_if_eq (np := 47) (tgt := 51) B.1 dX13_blendValue_44 (by decide) rfl (fun q => ?_) (fun q => ?_)
        · replace h := h.1 q
          refine g_aload_n (np := 52) B.1 dX13_blendValue_51 rfl rfl ?_
          refine g_iload_n (np := 53) B.1 dX13_blendValue_52 rfl rfl ?_
          refine g_iconst (np := 54) (v := 1) B.1 dX13_blendValue_53 (by decide) rfl ?_
          refine gc_YModel_80 (np := 57) B   (oX13_sum B.1.tr   r17 1  _ _ _ h) (Nat.le_of_ble_eq_true rfl) (Nat.le_of_ble_eq_true rfl) (Nat.le_of_ble_eq_true rfl) (Nat.le_of_ble_eq_true rfl) (Nat.le_of_ble_eq_true rfl) dX13_blendValue_54 rfl (fun r21 s22 h => ?_)
          exact g_iret B (ty := .int) rfl rfl (Nat.le_of_ble_eq_true rfl) (Nat.le_of_ble_eq_true rfl) dX13_blendValue_57 ⟨_, rfl, h⟩
        · replace h := h.2 q
          refine g_iconst (np := 48) (v := 0) B.1 dX13_blendValue_47 (by decide) rfl ?_
          refine g_goto (tgt := 57) B.1 dX13_blendValue_48 (by decide) ?_
          exact g_iret B (ty := .int) rfl rfl (Nat.le_of_ble_eq_true rfl) (Nat.le_of_ble_eq_true rfl) dX13_blendValue_57 ⟨_, rfl, h⟩
      · replace h := h.2 q
        refine g_iconst (np := 36) (v := 1) B.1 dX13_blendValue_35 (by decide) rfl ?_
        refine g_goto (tgt := 40) B.1 dX13_blendValue_36 (by decide) ?_
        refine g_iconst (np := 41) (v := 2) B.1 dX13_blendValue_40 (by decide) rfl ?_
        refine gc_YModel_65 (np := 44) B   (oX13_isThrown B.1.tr   1 2  _ _ _ h) (Nat.le_of_ble_eq_true rfl) (Nat.le_of_ble_eq_true rfl) (Nat.le_of_ble_eq_true rfl) (Nat.le_of_ble_eq_true rfl) (Nat.le_of_ble_eq_true rfl) dX13_blendValue_41 rfl (fun r23 s24 h => ?_)
        refine g_if_eq (np := 47) (tgt := 51) B.1 dX13_blendValue_44 (by decide) rfl (fun q => ?_) (fun q => ?_)
        · replace h := h.1 q
          refine g_aload_n (np := 52) B.1 dX13_blendValue_51 rfl rfl ?_
          refine g_iload_n (np := 53) B.1 dX13_blendValue_52 rfl rfl ?_
          refine g_iconst (np := 54) (v := 1) B.1 dX13_blendValue_53 (by decide) rfl ?_
          refine gc_YModel_80 (np := 57) B   (oX13_sum B.1.tr   r17 1  _ _ _ h) (Nat.le_of_ble_eq_true rfl) (Nat.le_of_ble_eq_true rfl) (Nat.le_of_ble_eq_true rfl) (Nat.le_of_ble_eq_true rfl) (Nat.le_of_ble_eq_true rfl) dX13_blendValue_54 rfl (fun r25 s26 h => ?_)
          exact g_iret B (ty := .int) rfl rfl (Nat.le_of_ble_eq_true rfl) (Nat.le_of_ble_eq_true rfl) dX13_blendValue_57 ⟨_, rfl, h⟩
        · replace h := h.2 q
          refine g_iconst (np := 48) (v := 0) B.1 dX13_blendValue_47 (by decide) rfl ?_
          refine g_goto (tgt := 57) B.1 dX13_blendValue_48 (by decide) ?_
          exact g_iret B (ty := .int) rfl rfl (Nat.le_of_ble_eq_true rfl) (Nat.le_of_ble_eq_true rfl) dX13_blendValue_57 ⟨_, rfl, h⟩
    · replace h := h.2 q
      refine g_iconst (np := 22) (v := 0) B.1 dX13_blendValue_21 (by decide) rfl ?_
      exact g_iret B (ty := .int) rfl rfl (Nat.le_of_ble_eq_true rfl) (Nat.le_of_ble_eq_true rfl) dX13_blendValue_22 ⟨_, rfl, h⟩
def wX13_blendValueBySearch  (a1 : Int32) (a2 : Int32) (s0 : Mem) (Q : Int32 → Mem → Prop) (E : String → Mem → Prop) : Prop := wX13_blendValue  a1 a2 s0 (fun (r1 : Int32) (s2 : Mem) => Q r1 s2) E
set_option maxRecDepth 20000 in
set_option maxHeartbeats 4000000 in
theorem oX13_blendValueBySearch {l : Launch} {x : Ctx} (hl : l.stackTraces = false)   (a1 : Int32) (a2 : Int32)  (s0 : Mem) (Q : Int32 → Mem → Prop) (E : String → Mem → Prop) (h : wX13_blendValueBySearch  a1 a2 s0 Q E) : MetG l x yX13_blendValueBySearch cX13_blendValueBySearch 3 (some .int) 5 117 0 0 [.ref (xad x 15 0), .int a1, .int a2] s0 (RI Q) E := by
  refine MetG.of hl (by decide) (Nat.le_of_ble_eq_true rfl) [some (.ref (xad x 15 0)), some (.int a1), some (.int a2)] rfl (fun K B hx _ => ?_)
  subst hx
  unfold wX13_blendValueBySearch at h
  refine g_aload_n (np := 1) B.1 dX13_blendValueBySearch_0 rfl rfl ?_
  refine g_iload_n (np := 2) B.1 dX13_blendValueBySearch_1 rfl rfl ?_
  refine g_iload_n (np := 3) B.1 dX13_blendValueBySearch_2 rfl rfl ?_
  refine gc_YModel_151 (np := 6) B   (oX13_blendValue B.1.tr   a1 a2  _ _ _ h) (Nat.le_of_ble_eq_true rfl) (Nat.le_of_ble_eq_true rfl) (Nat.le_of_ble_eq_true rfl) (Nat.le_of_ble_eq_true rfl) (Nat.le_of_ble_eq_true rfl) dX13_blendValueBySearch_3 rfl (fun r1 s2 h => ?_)
  exact g_iret B (ty := .int) rfl rfl (Nat.le_of_ble_eq_true rfl) (Nat.le_of_ble_eq_true rfl) dX13_blendValueBySearch_6 ⟨_, rfl, h⟩
def wX13_isInBlend_35   (Q : Int32 → Mem → Prop) (E : String → Mem → Prop)   : Int32 → Int32 → Int32 → Int32 → Mem → Prop := fun v1 v2 v3 z0 s0 => wX13_isThrown  z0 2 s0 (fun (r7 : Int32) (s8 : Mem) => ((r7 = 0 → wX13_best  v2 v3 s8 (fun (r9 : Int32) (s10 : Mem) => ((¬ r9 = 0 → wX13_isThrown  0 3 s10 (fun (r11 : Int32) (s12 : Mem) => ((¬ r11 = 0 → Q 0 s12) ∧ (r11 = 0 → wX13_bale  v1 s12 (fun (r13 : Int32) (s14 : Mem) => ((¬ (r9 >>> (r13 &&& 31)) &&& 1 = 1 → Q 0 s14) ∧ ((r9 >>> (r13 &&& 31)) &&& 1 = 1 → Q 1 s14))) E))) E) ∧ (r9 = 0 → wX13_isThrown  1 3 s10 (fun (r15 : Int32) (s16 : Mem) => ((¬ r15 = 0 → Q 0 s16) ∧ (r15 = 0 → wX13_bale  v1 s16 (fun (r17 : Int32) (s18 : Mem) => ((¬ (r9 >>> (r17 &&& 31)) &&& 1 = 1 → Q 0 s18) ∧ ((r9 >>> (r17 &&& 31)) &&& 1 = 1 → Q 1 s18))) E))) E))) E) ∧ (¬ r7 = 0 → Q 0 s8))) E
def wX13_isInBlend_14   (Q : Int32 → Mem → Prop) (E : String → Mem → Prop)   : Int32 → Int32 → Int32 → Int32 → Mem → Prop := fun v1 v2 v3 z0 s0 => wX13_isThrown  z0 1 s0 (fun (r3 : Int32) (s4 : Mem) => ((¬ r3 = 0 → Q 0 s4) ∧ (r3 = 0 → wX13_isBlendAsked  v2 v3 s4 (fun (r5 : Int32) (s6 : Mem) => ((¬ r5 = 0 → wX13_isInBlend_35   Q E  v1 v2 v3 0 s6) ∧ (r5 = 0 → wX13_isInBlend_35   Q E  v1 v2 v3 1 s6))) E))) E
def wX13_isInBlend  (a1 : Int32) (a2 : Int32) (a3 : Int32) (s0 : Mem) (Q : Int32 → Mem → Prop) (E : String → Mem → Prop) : Prop := wX13_bale  a1 s0 (fun (r1 : Int32) (s2 : Mem) => ((0 ≤ r1 → wX13_isInBlend_14   Q E  a1 a2 a3 0 s2) ∧ (¬ 0 ≤ r1 → wX13_isInBlend_14   Q E  a1 a2 a3 1 s2))) E
set_option maxRecDepth 20000 in
set_option maxHeartbeats 4000000 in
theorem oX13_isInBlend_35 {K : Fr} {Q : Int32 → Mem → Prop} {E : String → Mem → Prop} (B : Bd K cX13_isInBlend "YarnMillModel" 5 (some .boolean) 4 94 0 0 (RI Q) E)     {cells slots : Nat}  (hc : cells ≤ 0) (hs : slots ≤ 0) : ∀ (v1 : Int32) (v2 : Int32) (v3 : Int32) (z0 : Int32) (s0 : Mem), wX13_isInBlend_35   Q E  v1 v2 v3 z0 s0 → Go K cells slots s0 35 [some (.ref (xad (fX K) 15 0)), some (.int v1), some (.int v2), some (.int v3), none] (.int z0 :: .ref (xad (fX K) 15 0) :: []) := by
  intro v1 v2 v3 z0 s0 h
  unfold wX13_isInBlend_35 at h
  refine g_iconst (np := 36) (v := 2) B.1 dX13_isInBlend_35 (by decide) rfl ?_
  refine gc_YModel_65 (np := 39) B   (oX13_isThrown B.1.tr   z0 2  _ _ _ h) (Nat.le_of_ble_eq_true rfl) (Nat.le_of_ble_eq_true rfl) (Nat.le_of_ble_eq_true rfl) hc hs dX13_isInBlend_36 rfl (fun r7 s8 h => ?_)
  refine g_if_eq (np := 42) (tgt := 44) B.1 dX13_isInBlend_39 (by decide) rfl (fun q => ?_) (fun q => ?_)
  · replace h := h.1 q
    refine g_aload_n (np := 45) B.1 dX13_isInBlend_44 rfl rfl ?_
    refine g_iload_n (np := 46) B.1 dX13_isInBlend_45 rfl rfl ?_
    refine g_iload_n (np := 47) B.1 dX13_isInBlend_46 rfl rfl ?_
    refine gc_YModel_90 (np := 50) B   (oX13_best B.1.tr   v2 v3  _ _ _ h) (Nat.le_of_ble_eq_true rfl) (Nat.le_of_ble_eq_true rfl) (Nat.le_of_ble_eq_true rfl) hc hs dX13_isInBlend_47 rfl (fun r9 s10 h => ?_)
    refine g_istore (np := 52) (lv' := [some (.ref (xad (fX K) 15 0)), some (.int v1), some (.int v2), some (.int v3), some (.int r9)]) B.1 dX13_isInBlend_50 (by decide) rfl rfl rfl ?_
    refine g_aload_n (np := 53) B.1 dX13_isInBlend_52 rfl rfl ?_
    refine g_iload (np := 55) B.1 dX13_isInBlend_53 rfl rfl ?_
    refine g_if_ne (np := 58) (tgt := 62) B.1 dX13_isInBlend_55 (by decide) rfl (fun q => ?_) (fun q => ?_)
    · replace h := h.1 q
      refine g_iconst (np := 63) (v := 0) B.1 dX13_isInBlend_62 (by decide) rfl ?_
      refine g_iconst (np := 64) (v := 3) B.1 dX13_isInBlend_63 (by decide) rfl ?_
      refine gc_YModel_65 (np := 67) B   (oX13_isThrown B.1.tr   0 3  _ _ _ h) (Nat.le_of_ble_eq_true rfl) (Nat.le_of_ble_eq_true rfl) (Nat.le_of_ble_eq_true rfl) hc hs dX13_isInBlend_64 rfl (fun r11 s12 h => ?_)
      refine g_if_ne (np := 70) (tgt := 88) B.1 dX13_isInBlend_67 (by decide) rfl (fun q => ?_) (fun q => ?_)
      · replace h := h.1 q
        refine g_iconst (np := 89) (v := 0) B.1 dX13_isInBlend_88 (by decide) rfl ?_
        exact g_iret B (ty := .boolean) rfl (by decide) hc hs dX13_isInBlend_89 ⟨_, rfl, h⟩
      · replace h := h.2 q
        refine g_iload (np := 72) B.1 dX13_isInBlend_70 rfl rfl ?_
        refine g_aload_n (np := 73) B.1 dX13_isInBlend_72 rfl rfl ?_
        refine g_iload_n (np := 74) B.1 dX13_isInBlend_73 rfl rfl ?_
        refine gc_YModel_142 (np := 77) B   (oX13_bale B.1.tr   v1  _ _ _ h) (Nat.le_of_ble_eq_true rfl) (Nat.le_of_ble_eq_true rfl) (Nat.le_of_ble_eq_true rfl) hc hs dX13_isInBlend_74 rfl (fun r13 s14 h => ?_)
        refine g_ishr (np := 78) B.1 dX13_isInBlend_77 rfl ?_
        refine g_iconst (np := 79) (v := 1) B.1 dX13_isInBlend_78 (by decide) rfl ?_
        refine g_iand (np := 80) B.1 dX13_isInBlend_79 rfl ?_
        refine g_iconst (np := 81) (v := 1) B.1 dX13_isInBlend_80 (by decide) rfl ?_
        refine g_icmp_ne (np := 84) (tgt := 88) B.1 dX13_isInBlend_81 (by decide) rfl (fun q => ?_) (fun q => ?_)
        · replace h := h.1 q
          refine g_iconst (np := 89) (v := 0) B.1 dX13_isInBlend_88 (by decide) rfl ?_
          exact g_iret B (ty := .boolean) rfl (by decide) hc hs dX13_isInBlend_89 ⟨_, rfl, h⟩
        · replace h := h.2 q
          refine g_iconst (np := 85) (v := 1) B.1 dX13_isInBlend_84 (by decide) rfl ?_
          refine g_goto (tgt := 89) B.1 dX13_isInBlend_85 (by decide) ?_
          exact g_iret B (ty := .boolean) rfl (by decide) hc hs dX13_isInBlend_89 ⟨_, rfl, h⟩
    · replace h := h.2 q
      refine g_iconst (np := 59) (v := 1) B.1 dX13_isInBlend_58 (by decide) rfl ?_
      refine g_goto (tgt := 63) B.1 dX13_isInBlend_59 (by decide) ?_
      refine g_iconst (np := 64) (v := 3) B.1 dX13_isInBlend_63 (by decide) rfl ?_
      refine gc_YModel_65 (np := 67) B   (oX13_isThrown B.1.tr   1 3  _ _ _ h) (Nat.le_of_ble_eq_true rfl) (Nat.le_of_ble_eq_true rfl) (Nat.le_of_ble_eq_true rfl) hc hs dX13_isInBlend_64 rfl (fun r15 s16 h => ?_)
      refine g_if_ne (np := 70) (tgt := 88) B.1 dX13_isInBlend_67 (by decide) rfl (fun q => ?_) (fun q => ?_)
      · replace h := h.1 q
        refine g_iconst (np := 89) (v := 0) B.1 dX13_isInBlend_88 (by decide) rfl ?_
        exact g_iret B (ty := .boolean) rfl (by decide) hc hs dX13_isInBlend_89 ⟨_, rfl, h⟩
      · replace h := h.2 q
        refine g_iload (np := 72) B.1 dX13_isInBlend_70 rfl rfl ?_
        refine g_aload_n (np := 73) B.1 dX13_isInBlend_72 rfl rfl ?_
        refine g_iload_n (np := 74) B.1 dX13_isInBlend_73 rfl rfl ?_
        refine gc_YModel_142 (np := 77) B   (oX13_bale B.1.tr   v1  _ _ _ h) (Nat.le_of_ble_eq_true rfl) (Nat.le_of_ble_eq_true rfl) (Nat.le_of_ble_eq_true rfl) hc hs dX13_isInBlend_74 rfl (fun r17 s18 h => ?_)
        refine g_ishr (np := 78) B.1 dX13_isInBlend_77 rfl ?_
        refine g_iconst (np := 79) (v := 1) B.1 dX13_isInBlend_78 (by decide) rfl ?_
        refine g_iand (np := 80) B.1 dX13_isInBlend_79 rfl ?_
        refine g_iconst (np := 81) (v := 1) B.1 dX13_isInBlend_80 (by decide) rfl ?_
        refine g_icmp_ne (np := 84) (tgt := 88) B.1 dX13_isInBlend_81 (by decide) rfl (fun q => ?_) (fun q => ?_)
        · replace h := h.1 q
          refine g_iconst (np := 89) (v := 0) B.1 dX13_isInBlend_88 (by decide) rfl ?_
          exact g_iret B (ty := .boolean) rfl (by decide) hc hs dX13_isInBlend_89 ⟨_, rfl, h⟩
        · replace h := h.2 q
          refine g_iconst (np := 85) (v := 1) B.1 dX13_isInBlend_84 (by decide) rfl ?_
          refine g_goto (tgt := 89) B.1 dX13_isInBlend_85 (by decide) ?_
          exact g_iret B (ty := .boolean) rfl (by decide) hc hs dX13_isInBlend_89 ⟨_, rfl, h⟩
  · replace h := h.2 q
    refine g_iconst (np := 43) (v := 0) B.1 dX13_isInBlend_42 (by decide) rfl ?_
    exact g_iret B (ty := .boolean) rfl (by decide) hc hs dX13_isInBlend_43 ⟨_, rfl, h⟩
set_option maxRecDepth 20000 in
set_option maxHeartbeats 4000000 in
theorem oX13_isInBlend_14 {K : Fr} {Q : Int32 → Mem → Prop} {E : String → Mem → Prop} (B : Bd K cX13_isInBlend "YarnMillModel" 5 (some .boolean) 4 94 0 0 (RI Q) E)     {cells slots : Nat}  (hc : cells ≤ 0) (hs : slots ≤ 0) : ∀ (v1 : Int32) (v2 : Int32) (v3 : Int32) (z0 : Int32) (s0 : Mem), wX13_isInBlend_14   Q E  v1 v2 v3 z0 s0 → Go K cells slots s0 14 [some (.ref (xad (fX K) 15 0)), some (.int v1), some (.int v2), some (.int v3), none] (.int z0 :: .ref (xad (fX K) 15 0) :: []) := by
  intro v1 v2 v3 z0 s0 h
  unfold wX13_isInBlend_14 at h
  refine g_iconst (np := 15) (v := 1) B.1 dX13_isInBlend_14 (by decide) rfl ?_
  refine gc_YModel_65 (np := 18) B   (oX13_isThrown B.1.tr   z0 1  _ _ _ h) (Nat.le_of_ble_eq_true rfl) (Nat.le_of_ble_eq_true rfl) (Nat.le_of_ble_eq_true rfl) hc hs dX13_isInBlend_15 rfl (fun r3 s4 h => ?_)
  refine g_if_ne (np := 21) (tgt := 42) B.1 dX13_isInBlend_18 (by decide) rfl (fun q => ?_) (fun q => ?_)
  · replace h := h.1 q
    refine g_iconst (np := 43) (v := 0) B.1 dX13_isInBlend_42 (by decide) rfl ?_
    exact g_iret B (ty := .boolean) rfl (by decide) hc hs dX13_isInBlend_43 ⟨_, rfl, h⟩
  · replace h := h.2 q
    refine g_aload_n (np := 22) B.1 dX13_isInBlend_21 rfl rfl ?_
    refine g_iload_n (np := 23) B.1 dX13_isInBlend_22 rfl rfl ?_
    refine g_iload_n (np := 24) B.1 dX13_isInBlend_23 rfl rfl ?_
    refine gc_YModel_87 (np := 27) B   (oX13_isBlendAsked B.1.tr   v2 v3  _ _ _ h) (Nat.le_of_ble_eq_true rfl) (Nat.le_of_ble_eq_true rfl) (Nat.le_of_ble_eq_true rfl) hc hs dX13_isInBlend_24 rfl (fun r5 s6 h => ?_)
    refine g_if_ne (np := 30) (tgt := 34) B.1 dX13_isInBlend_27 (by decide) rfl (fun q => ?_) (fun q => ?_)
    · replace h := h.1 q
      refine g_iconst (np := 35) (v := 0) B.1 dX13_isInBlend_34 (by decide) rfl ?_
      refine Go.lle [some (.ref (xad (fX K) 15 0)), some (.int v1), some (.int v2), some (.int v3), none] (by simp [lle]) ?_
      refine oX13_isInBlend_35 B     hc hs v1 v2 v3 0 s6 h
    · replace h := h.2 q
      refine g_iconst (np := 31) (v := 1) B.1 dX13_isInBlend_30 (by decide) rfl ?_
      refine g_goto (tgt := 35) B.1 dX13_isInBlend_31 (by decide) ?_
      refine Go.lle [some (.ref (xad (fX K) 15 0)), some (.int v1), some (.int v2), some (.int v3), none] (by simp [lle]) ?_
      refine oX13_isInBlend_35 B     hc hs v1 v2 v3 1 s6 h
set_option maxRecDepth 20000 in
set_option maxHeartbeats 4000000 in
theorem oX13_isInBlend {l : Launch} {x : Ctx} (hl : l.stackTraces = false)   (a1 : Int32) (a2 : Int32) (a3 : Int32)  (s0 : Mem) (Q : Int32 → Mem → Prop) (E : String → Mem → Prop) (h : wX13_isInBlend  a1 a2 a3 s0 Q E) : MetG l x yX13_isInBlend cX13_isInBlend 5 (some .boolean) 4 94 0 0 [.ref (xad x 15 0), .int a1, .int a2, .int a3] s0 (RI Q) E := by
  refine MetG.of hl (by decide) (Nat.le_of_ble_eq_true rfl) [some (.ref (xad x 15 0)), some (.int a1), some (.int a2), some (.int a3), none] rfl (fun K B hx _ => ?_)
  subst hx
  unfold wX13_isInBlend at h
  refine g_aload_n (np := 1) B.1 dX13_isInBlend_0 rfl rfl ?_
  refine g_aload_n (np := 2) B.1 dX13_isInBlend_1 rfl rfl ?_
  refine g_iload_n (np := 3) B.1 dX13_isInBlend_2 rfl rfl ?_
  refine gc_YModel_142 (np := 6) B   (oX13_bale B.1.tr   a1  _ _ _ h) (Nat.le_of_ble_eq_true rfl) (Nat.le_of_ble_eq_true rfl) (Nat.le_of_ble_eq_true rfl) (Nat.le_of_ble_eq_true rfl) (Nat.le_of_ble_eq_true rfl) dX13_isInBlend_3 rfl (fun r1 s2 h => ?_)
  refine g_if_ge (np := 9) (tgt := 13) B.1 dX13_isInBlend_6 (by decide) rfl (fun q => ?_) (fun q => ?_)
  · replace h := h.1 q
    refine g_iconst (np := 14) (v := 0) B.1 dX13_isInBlend_13 (by decide) rfl ?_
    refine Go.lle [some (.ref (xad (fX K) 15 0)), some (.int a1), some (.int a2), some (.int a3), none] (by simp [lle]) ?_
    refine oX13_isInBlend_14 B     (Nat.le_of_ble_eq_true rfl) (Nat.le_of_ble_eq_true rfl) a1 a2 a3 0 s2 h
  · replace h := h.2 q
    refine g_iconst (np := 10) (v := 1) B.1 dX13_isInBlend_9 (by decide) rfl ?_
    refine g_goto (tgt := 14) B.1 dX13_isInBlend_10 (by decide) ?_
    refine Go.lle [some (.ref (xad (fX K) 15 0)), some (.int a1), some (.int a2), some (.int a3), none] (by simp [lle]) ?_
    refine oX13_isInBlend_14 B     (Nat.le_of_ble_eq_true rfl) (Nat.le_of_ble_eq_true rfl) a1 a2 a3 1 s2 h
def wX13_orderCount   (s0 : Mem) (Q : Int32 → Mem → Prop) (E : String → Mem → Prop) : Prop := ∀ s1 : Mem, s1 = wr s0 15 0 7 0 → Q (rd s1 10 8 12) s1
set_option maxRecDepth 20000 in
set_option maxHeartbeats 4000000 in
theorem oX13_orderCount {l : Launch} {x : Ctx} (hl : l.stackTraces = false)     (s0 : Mem) (Q : Int32 → Mem → Prop) (E : String → Mem → Prop) (h : wX13_orderCount   s0 Q E) : MetG l x yX13_orderCount cX13_orderCount 1 (some .int) 0 0 0 0 [.ref (xad x 15 0)] s0 (RI Q) E := by
  refine MetG.of hl (by decide) (Nat.le_of_ble_eq_true rfl) [some (.ref (xad x 15 0))] rfl (fun K B hx _ => ?_)
  subst hx
  unfold wX13_orderCount at h
  refine g_aload_n (np := 1) B.1 dX13_orderCount_0 rfl rfl ?_
  refine g_iconst (np := 2) (v := 0) B.1 dX13_orderCount_1 (by decide) rfl ?_
  refine gp_YModel_44_15 (np := 5) B.1 dX13_orderCount_2 rfl ?_
  refine g_mem (fun s1 es1 => ?_)
  replace h := h s1 es1
  refine g_aload_n (np := 6) B.1 dX13_orderCount_5 rfl rfl ?_
  refine gf_YModel_9_15 (np := 9) B.1 dX13_orderCount_6 rfl ?_
  refine g_bipush (np := 11) (v := 12) B.1 dX13_orderCount_9 (by decide) rfl ?_
  refine g_ialdL (np := 12) B.1 10 8 (by decide) rfl rfl 12 (by decide) (vpl (by decide)) dX13_orderCount_11 rfl ?_
  exact g_iret B (ty := .int) rfl rfl (Nat.le_of_ble_eq_true rfl) (Nat.le_of_ble_eq_true rfl) dX13_orderCount_12 ⟨_, rfl, h⟩
def wX13_orderAt  (a1 : Int32) (s0 : Mem) (Q : Int32 → Mem → Prop) (E : String → Mem → Prop) : Prop := wX13_isIn  a1 0 ((rd s0 10 8 12) - 1) s0 (fun (r1 : Int32) (s2 : Mem) => ((¬ r1 = 0 → wX13_isThrown  0 1 s2 (fun (r3 : Int32) (s4 : Mem) => ((r3 = 0 → wX13_ofOrder  a1 0 s4 (fun (r5 : Int32) (s6 : Mem) => Q r5 s6) E) ∧ (¬ r3 = 0 → Q 0 s4))) E) ∧ (r1 = 0 → wX13_isThrown  1 1 s2 (fun (r7 : Int32) (s8 : Mem) => ((r7 = 0 → wX13_ofOrder  a1 0 s8 (fun (r9 : Int32) (s10 : Mem) => Q r9 s10) E) ∧ (¬ r7 = 0 → Q 0 s8))) E))) E
set_option maxRecDepth 20000 in
set_option maxHeartbeats 4000000 in
theorem oX13_orderAt {l : Launch} {x : Ctx} (hl : l.stackTraces = false)   (a1 : Int32)  (s0 : Mem) (Q : Int32 → Mem → Prop) (E : String → Mem → Prop) (h : wX13_orderAt  a1 s0 Q E) : MetG l x yX13_orderAt cX13_orderAt 2 (some .int) 1 22 0 0 [.ref (xad x 15 0), .int a1] s0 (RI Q) E := by
  refine MetG.of hl (by decide) (Nat.le_of_ble_eq_true rfl) [some (.ref (xad x 15 0)), some (.int a1)] rfl (fun K B hx _ => ?_)
  subst hx
  unfold wX13_orderAt at h
  refine g_aload_n (np := 1) B.1 dX13_orderAt_0 rfl rfl ?_
  refine g_iload_n (np := 2) B.1 dX13_orderAt_1 rfl rfl ?_
  refine g_iconst (np := 3) (v := 0) B.1 dX13_orderAt_2 (by decide) rfl ?_
  refine g_aload_n (np := 4) B.1 dX13_orderAt_3 rfl rfl ?_
  refine gf_YModel_9_15 (np := 7) B.1 dX13_orderAt_4 rfl ?_
  refine g_bipush (np := 9) (v := 12) B.1 dX13_orderAt_7 (by decide) rfl ?_
  refine g_ialdL (np := 10) B.1 10 8 (by decide) rfl rfl 12 (by decide) (vpl (by decide)) dX13_orderAt_9 rfl ?_
  refine g_iconst (np := 11) (v := 1) B.1 dX13_orderAt_10 (by decide) rfl ?_
  refine g_isub (np := 12) B.1 dX13_orderAt_11 rfl ?_
  refine gc_YModel_61 (np := 15) B   (oX13_isIn B.1.tr   a1 0 ((rd s0 10 8 12) - 1)  _ _ _ h) (Nat.le_of_ble_eq_true rfl) (Nat.le_of_ble_eq_true rfl) (Nat.le_of_ble_eq_true rfl) (Nat.le_of_ble_eq_true rfl) (Nat.le_of_ble_eq_true rfl) dX13_orderAt_12 rfl (fun r1 s2 h => ?_)
  refine g_if_ne (np := 18) (tgt := 22) B.1 dX13_orderAt_15 (by decide) rfl (fun q => ?_) (fun q => ?_)
  · replace h := h.1 q
    refine g_iconst (np := 23) (v := 0) B.1 dX13_orderAt_22 (by decide) rfl ?_
    refine g_iconst (np := 24) (v := 1) B.1 dX13_orderAt_23 (by decide) rfl ?_
    refine gc_YModel_65 (np := 27) B   (oX13_isThrown B.1.tr   0 1  _ _ _ h) (Nat.le_of_ble_eq_true rfl) (Nat.le_of_ble_eq_true rfl) (Nat.le_of_ble_eq_true rfl) (Nat.le_of_ble_eq_true rfl) (Nat.le_of_ble_eq_true rfl) dX13_orderAt_24 rfl (fun r3 s4 h => ?_)
    refine g_if_eq (np := 30) (tgt := 34) B.1 dX13_orderAt_27 (by decide) rfl (fun q => ?_) (fun q => ?_)
    · replace h := h.1 q
      refine g_aload_n (np := 35) B.1 dX13_orderAt_34 rfl rfl ?_
      refine g_iload_n (np := 36) B.1 dX13_orderAt_35 rfl rfl ?_
      refine g_iconst (np := 37) (v := 0) B.1 dX13_orderAt_36 (by decide) rfl ?_
      refine gc_YModel_58 (np := 40) B   (oX13_ofOrder B.1.tr   a1 0  _ _ _ h) (Nat.le_of_ble_eq_true rfl) (Nat.le_of_ble_eq_true rfl) (Nat.le_of_ble_eq_true rfl) (Nat.le_of_ble_eq_true rfl) (Nat.le_of_ble_eq_true rfl) dX13_orderAt_37 rfl (fun r5 s6 h => ?_)
      exact g_iret B (ty := .int) rfl rfl (Nat.le_of_ble_eq_true rfl) (Nat.le_of_ble_eq_true rfl) dX13_orderAt_40 ⟨_, rfl, h⟩
    · replace h := h.2 q
      refine g_iconst (np := 31) (v := 0) B.1 dX13_orderAt_30 (by decide) rfl ?_
      refine g_goto (tgt := 40) B.1 dX13_orderAt_31 (by decide) ?_
      exact g_iret B (ty := .int) rfl rfl (Nat.le_of_ble_eq_true rfl) (Nat.le_of_ble_eq_true rfl) dX13_orderAt_40 ⟨_, rfl, h⟩
  · replace h := h.2 q
    refine g_iconst (np := 19) (v := 1) B.1 dX13_orderAt_18 (by decide) rfl ?_
    refine g_goto (tgt := 23) B.1 dX13_orderAt_19 (by decide) ?_
    refine g_iconst (np := 24) (v := 1) B.1 dX13_orderAt_23 (by decide) rfl ?_
    refine gc_YModel_65 (np := 27) B   (oX13_isThrown B.1.tr   1 1  _ _ _ h) (Nat.le_of_ble_eq_true rfl) (Nat.le_of_ble_eq_true rfl) (Nat.le_of_ble_eq_true rfl) (Nat.le_of_ble_eq_true rfl) (Nat.le_of_ble_eq_true rfl) dX13_orderAt_24 rfl (fun r7 s8 h => ?_)
    refine g_if_eq (np := 30) (tgt := 34) B.1 dX13_orderAt_27 (by decide) rfl (fun q => ?_) (fun q => ?_)
    · replace h := h.1 q
      refine g_aload_n (np := 35) B.1 dX13_orderAt_34 rfl rfl ?_
      refine g_iload_n (np := 36) B.1 dX13_orderAt_35 rfl rfl ?_
      refine g_iconst (np := 37) (v := 0) B.1 dX13_orderAt_36 (by decide) rfl ?_
      refine gc_YModel_58 (np := 40) B   (oX13_ofOrder B.1.tr   a1 0  _ _ _ h) (Nat.le_of_ble_eq_true rfl) (Nat.le_of_ble_eq_true rfl) (Nat.le_of_ble_eq_true rfl) (Nat.le_of_ble_eq_true rfl) (Nat.le_of_ble_eq_true rfl) dX13_orderAt_37 rfl (fun r9 s10 h => ?_)
      exact g_iret B (ty := .int) rfl rfl (Nat.le_of_ble_eq_true rfl) (Nat.le_of_ble_eq_true rfl) dX13_orderAt_40 ⟨_, rfl, h⟩
    · replace h := h.2 q
      refine g_iconst (np := 31) (v := 0) B.1 dX13_orderAt_30 (by decide) rfl ?_
      refine g_goto (tgt := 40) B.1 dX13_orderAt_31 (by decide) ?_
      exact g_iret B (ty := .int) rfl rfl (Nat.le_of_ble_eq_true rfl) (Nat.le_of_ble_eq_true rfl) dX13_orderAt_40 ⟨_, rfl, h⟩
def wX13_time  (a1 : Int32) (s0 : Mem) (Q : Int32 → Mem → Prop) (E : String → Mem → Prop) : Prop := wX13_ofOrder  a1 1 s0 (fun (r1 : Int32) (s2 : Mem) => wX13_ofOrder  a1 2 s2 (fun (r3 : Int32) (s4 : Mem) => Q (r1 * r3) s4) E) E
set_option maxRecDepth 20000 in
set_option maxHeartbeats 4000000 in
theorem oX13_time {l : Launch} {x : Ctx} (hl : l.stackTraces = false)   (a1 : Int32)  (s0 : Mem) (Q : Int32 → Mem → Prop) (E : String → Mem → Prop) (h : wX13_time  a1 s0 Q E) : MetG l x yX13_time cX13_time 2 (some .int) 1 22 0 0 [.ref (xad x 15 0), .int a1] s0 (RI Q) E := by
  refine MetG.of hl (by decide) (Nat.le_of_ble_eq_true rfl) [some (.ref (xad x 15 0)), some (.int a1)] rfl (fun K B hx _ => ?_)
  subst hx
  unfold wX13_time at h
  refine g_aload_n (np := 1) B.1 dX13_time_0 rfl rfl ?_
  refine g_iload_n (np := 2) B.1 dX13_time_1 rfl rfl ?_
  refine g_iconst (np := 3) (v := 1) B.1 dX13_time_2 (by decide) rfl ?_
  refine gc_YModel_58 (np := 6) B   (oX13_ofOrder B.1.tr   a1 1  _ _ _ h) (Nat.le_of_ble_eq_true rfl) (Nat.le_of_ble_eq_true rfl) (Nat.le_of_ble_eq_true rfl) (Nat.le_of_ble_eq_true rfl) (Nat.le_of_ble_eq_true rfl) dX13_time_3 rfl (fun r1 s2 h => ?_)
  refine g_aload_n (np := 7) B.1 dX13_time_6 rfl rfl ?_
  refine g_iload_n (np := 8) B.1 dX13_time_7 rfl rfl ?_
  refine g_iconst (np := 9) (v := 2) B.1 dX13_time_8 (by decide) rfl ?_
  refine gc_YModel_58 (np := 12) B   (oX13_ofOrder B.1.tr   a1 2  _ _ _ h) (Nat.le_of_ble_eq_true rfl) (Nat.le_of_ble_eq_true rfl) (Nat.le_of_ble_eq_true rfl) (Nat.le_of_ble_eq_true rfl) (Nat.le_of_ble_eq_true rfl) dX13_time_9 rfl (fun r3 s4 h => ?_)
  refine g_imul (np := 13) B.1 dX13_time_12 rfl ?_
  exact g_iret B (ty := .int) rfl rfl (Nat.le_of_ble_eq_true rfl) (Nat.le_of_ble_eq_true rfl) dX13_time_13 ⟨_, rfl, h⟩
def wX13_lengthOf  (a1 : Int32) (s0 : Mem) (Q : Int32 → Mem → Prop) (E : String → Mem → Prop) : Prop := wX13_order  a1 s0 (fun (r1 : Int32) (s2 : Mem) => ((0 ≤ r1 → wX13_isThrown  0 1 s2 (fun (r3 : Int32) (s4 : Mem) => ((r3 = 0 → wX13_order  a1 s4 (fun (r5 : Int32) (s6 : Mem) => wX13_ofOrder  r5 1 s6 (fun (r7 : Int32) (s8 : Mem) => Q r7 s8) E) E) ∧ (¬ r3 = 0 → Q 0 s4))) E) ∧ (¬ 0 ≤ r1 → wX13_isThrown  1 1 s2 (fun (r9 : Int32) (s10 : Mem) => ((r9 = 0 → wX13_order  a1 s10 (fun (r11 : Int32) (s12 : Mem) => wX13_ofOrder  r11 1 s12 (fun (r13 : Int32) (s14 : Mem) => Q r13 s14) E) E) ∧ (¬ r9 = 0 → Q 0 s10))) E))) E
set_option maxRecDepth 20000 in
set_option maxHeartbeats 4000000 in
theorem oX13_lengthOf {l : Launch} {x : Ctx} (hl : l.stackTraces = false)   (a1 : Int32)  (s0 : Mem) (Q : Int32 → Mem → Prop) (E : String → Mem → Prop) (h : wX13_lengthOf  a1 s0 Q E) : MetG l x yX13_lengthOf cX13_lengthOf 2 (some .int) 2 44 0 0 [.ref (xad x 15 0), .int a1] s0 (RI Q) E := by
  refine MetG.of hl (by decide) (Nat.le_of_ble_eq_true rfl) [some (.ref (xad x 15 0)), some (.int a1)] rfl (fun K B hx _ => ?_)
  subst hx
  unfold wX13_lengthOf at h
  refine g_aload_n (np := 1) B.1 dX13_lengthOf_0 rfl rfl ?_
  refine g_aload_n (np := 2) B.1 dX13_lengthOf_1 rfl rfl ?_
  refine g_iload_n (np := 3) B.1 dX13_lengthOf_2 rfl rfl ?_
  refine gc_YModel_103 (np := 6) B   (oX13_order B.1.tr   a1  _ _ _ h) (Nat.le_of_ble_eq_true rfl) (Nat.le_of_ble_eq_true rfl) (Nat.le_of_ble_eq_true rfl) (Nat.le_of_ble_eq_true rfl) (Nat.le_of_ble_eq_true rfl) dX13_lengthOf_3 rfl (fun r1 s2 h => ?_)
  refine g_if_ge (np := 9) (tgt := 13) B.1 dX13_lengthOf_6 (by decide) rfl (fun q => ?_) (fun q => ?_)
  · replace h := h.1 q
    refine g_iconst (np := 14) (v := 0) B.1 dX13_lengthOf_13 (by decide) rfl ?_
    refine g_iconst (np := 15) (v := 1) B.1 dX13_lengthOf_14 (by decide) rfl ?_
    refine gc_YModel_65 (np := 18) B   (oX13_isThrown B.1.tr   0 1  _ _ _ h) (Nat.le_of_ble_eq_true rfl) (Nat.le_of_ble_eq_true rfl) (Nat.le_of_ble_eq_true rfl) (Nat.le_of_ble_eq_true rfl) (Nat.le_of_ble_eq_true rfl) dX13_lengthOf_15 rfl (fun r3 s4 h => ?_)
    refine g_if_eq (np := 21) (tgt := 25) B.1 dX13_lengthOf_18 (by decide) rfl (fun q => ?_) (fun q => ?_)
    · replace h := h.1 q
      refine g_aload_n (np := 26) B.1 dX13_lengthOf_25 rfl rfl ?_
      refine g_aload_n (np := 27) B.1 dX13_lengthOf_26 rfl rfl ?_
      refine g_iload_n (np := 28) B.1 dX13_lengthOf_27 rfl rfl ?_
      refine gc_YModel_103 (np := 31) B   (oX13_order B.1.tr   a1  _ _ _ h) (Nat.le_of_ble_eq_true rfl) (Nat.le_of_ble_eq_true rfl) (Nat.le_of_ble_eq_true rfl) (Nat.le_of_ble_eq_true rfl) (Nat.le_of_ble_eq_true rfl) dX13_lengthOf_28 rfl (fun r5 s6 h => ?_)
      refine g_iconst (np := 32) (v := 1) B.1 dX13_lengthOf_31 (by decide) rfl ?_
      refine gc_YModel_58 (np := 35) B   (oX13_ofOrder B.1.tr   r5 1  _ _ _ h) (Nat.le_of_ble_eq_true rfl) (Nat.le_of_ble_eq_true rfl) (Nat.le_of_ble_eq_true rfl) (Nat.le_of_ble_eq_true rfl) (Nat.le_of_ble_eq_true rfl) dX13_lengthOf_32 rfl (fun r7 s8 h => ?_)
      exact g_iret B (ty := .int) rfl rfl (Nat.le_of_ble_eq_true rfl) (Nat.le_of_ble_eq_true rfl) dX13_lengthOf_35 ⟨_, rfl, h⟩
    · replace h := h.2 q
      refine g_iconst (np := 22) (v := 0) B.1 dX13_lengthOf_21 (by decide) rfl ?_
      refine g_goto (tgt := 35) B.1 dX13_lengthOf_22 (by decide) ?_
      exact g_iret B (ty := .int) rfl rfl (Nat.le_of_ble_eq_true rfl) (Nat.le_of_ble_eq_true rfl) dX13_lengthOf_35 ⟨_, rfl, h⟩
  · replace h := h.2 q
    refine g_iconst (np := 10) (v := 1) B.1 dX13_lengthOf_9 (by decide) rfl ?_
    refine g_goto (tgt := 14) B.1 dX13_lengthOf_10 (by decide) ?_
    refine g_iconst (np := 15) (v := 1) B.1 dX13_lengthOf_14 (by decide) rfl ?_
    refine gc_YModel_65 (np := 18) B   (oX13_isThrown B.1.tr   1 1  _ _ _ h) (Nat.le_of_ble_eq_true rfl) (Nat.le_of_ble_eq_true rfl) (Nat.le_of_ble_eq_true rfl) (Nat.le_of_ble_eq_true rfl) (Nat.le_of_ble_eq_true rfl) dX13_lengthOf_15 rfl (fun r9 s10 h => ?_)
    refine g_if_eq (np := 21) (tgt := 25) B.1 dX13_lengthOf_18 (by decide) rfl (fun q => ?_) (fun q => ?_)
    · replace h := h.1 q
      refine g_aload_n (np := 26) B.1 dX13_lengthOf_25 rfl rfl ?_
      refine g_aload_n (np := 27) B.1 dX13_lengthOf_26 rfl rfl ?_
      refine g_iload_n (np := 28) B.1 dX13_lengthOf_27 rfl rfl ?_
      refine gc_YModel_103 (np := 31) B   (oX13_order B.1.tr   a1  _ _ _ h) (Nat.le_of_ble_eq_true rfl) (Nat.le_of_ble_eq_true rfl) (Nat.le_of_ble_eq_true rfl) (Nat.le_of_ble_eq_true rfl) (Nat.le_of_ble_eq_true rfl) dX13_lengthOf_28 rfl (fun r11 s12 h => ?_)
      refine g_iconst (np := 32) (v := 1) B.1 dX13_lengthOf_31 (by decide) rfl ?_
      refine gc_YModel_58 (np := 35) B   (oX13_ofOrder B.1.tr   r11 1  _ _ _ h) (Nat.le_of_ble_eq_true rfl) (Nat.le_of_ble_eq_true rfl) (Nat.le_of_ble_eq_true rfl) (Nat.le_of_ble_eq_true rfl) (Nat.le_of_ble_eq_true rfl) dX13_lengthOf_32 rfl (fun r13 s14 h => ?_)
      exact g_iret B (ty := .int) rfl rfl (Nat.le_of_ble_eq_true rfl) (Nat.le_of_ble_eq_true rfl) dX13_lengthOf_35 ⟨_, rfl, h⟩
    · replace h := h.2 q
      refine g_iconst (np := 22) (v := 0) B.1 dX13_lengthOf_21 (by decide) rfl ?_
      refine g_goto (tgt := 35) B.1 dX13_lengthOf_22 (by decide) ?_
      exact g_iret B (ty := .int) rfl rfl (Nat.le_of_ble_eq_true rfl) (Nat.le_of_ble_eq_true rfl) dX13_lengthOf_35 ⟨_, rfl, h⟩
def wX13_twistOf  (a1 : Int32) (s0 : Mem) (Q : Int32 → Mem → Prop) (E : String → Mem → Prop) : Prop := wX13_order  a1 s0 (fun (r1 : Int32) (s2 : Mem) => ((0 ≤ r1 → wX13_isThrown  0 1 s2 (fun (r3 : Int32) (s4 : Mem) => ((r3 = 0 → wX13_order  a1 s4 (fun (r5 : Int32) (s6 : Mem) => wX13_ofOrder  r5 2 s6 (fun (r7 : Int32) (s8 : Mem) => Q r7 s8) E) E) ∧ (¬ r3 = 0 → Q 0 s4))) E) ∧ (¬ 0 ≤ r1 → wX13_isThrown  1 1 s2 (fun (r9 : Int32) (s10 : Mem) => ((r9 = 0 → wX13_order  a1 s10 (fun (r11 : Int32) (s12 : Mem) => wX13_ofOrder  r11 2 s12 (fun (r13 : Int32) (s14 : Mem) => Q r13 s14) E) E) ∧ (¬ r9 = 0 → Q 0 s10))) E))) E
set_option maxRecDepth 20000 in
set_option maxHeartbeats 4000000 in
theorem oX13_twistOf {l : Launch} {x : Ctx} (hl : l.stackTraces = false)   (a1 : Int32)  (s0 : Mem) (Q : Int32 → Mem → Prop) (E : String → Mem → Prop) (h : wX13_twistOf  a1 s0 Q E) : MetG l x yX13_twistOf cX13_twistOf 2 (some .int) 2 44 0 0 [.ref (xad x 15 0), .int a1] s0 (RI Q) E := by
  refine MetG.of hl (by decide) (Nat.le_of_ble_eq_true rfl) [some (.ref (xad x 15 0)), some (.int a1)] rfl (fun K B hx _ => ?_)
  subst hx
  unfold wX13_twistOf at h
  refine g_aload_n (np := 1) B.1 dX13_twistOf_0 rfl rfl ?_
  refine g_aload_n (np := 2) B.1 dX13_twistOf_1 rfl rfl ?_
  refine g_iload_n (np := 3) B.1 dX13_twistOf_2 rfl rfl ?_
  refine gc_YModel_103 (np := 6) B   (oX13_order B.1.tr   a1  _ _ _ h) (Nat.le_of_ble_eq_true rfl) (Nat.le_of_ble_eq_true rfl) (Nat.le_of_ble_eq_true rfl) (Nat.le_of_ble_eq_true rfl) (Nat.le_of_ble_eq_true rfl) dX13_twistOf_3 rfl (fun r1 s2 h => ?_)
  refine g_if_ge (np := 9) (tgt := 13) B.1 dX13_twistOf_6 (by decide) rfl (fun q => ?_) (fun q => ?_)
  · replace h := h.1 q
    refine g_iconst (np := 14) (v := 0) B.1 dX13_twistOf_13 (by decide) rfl ?_
    refine g_iconst (np := 15) (v := 1) B.1 dX13_twistOf_14 (by decide) rfl ?_
    refine gc_YModel_65 (np := 18) B   (oX13_isThrown B.1.tr   0 1  _ _ _ h) (Nat.le_of_ble_eq_true rfl) (Nat.le_of_ble_eq_true rfl) (Nat.le_of_ble_eq_true rfl) (Nat.le_of_ble_eq_true rfl) (Nat.le_of_ble_eq_true rfl) dX13_twistOf_15 rfl (fun r3 s4 h => ?_)
    refine g_if_eq (np := 21) (tgt := 25) B.1 dX13_twistOf_18 (by decide) rfl (fun q => ?_) (fun q => ?_)
    · replace h := h.1 q
      refine g_aload_n (np := 26) B.1 dX13_twistOf_25 rfl rfl ?_
      refine g_aload_n (np := 27) B.1 dX13_twistOf_26 rfl rfl ?_
      refine g_iload_n (np := 28) B.1 dX13_twistOf_27 rfl rfl ?_
      refine gc_YModel_103 (np := 31) B   (oX13_order B.1.tr   a1  _ _ _ h) (Nat.le_of_ble_eq_true rfl) (Nat.le_of_ble_eq_true rfl) (Nat.le_of_ble_eq_true rfl) (Nat.le_of_ble_eq_true rfl) (Nat.le_of_ble_eq_true rfl) dX13_twistOf_28 rfl (fun r5 s6 h => ?_)
      refine g_iconst (np := 32) (v := 2) B.1 dX13_twistOf_31 (by decide) rfl ?_
      refine gc_YModel_58 (np := 35) B   (oX13_ofOrder B.1.tr   r5 2  _ _ _ h) (Nat.le_of_ble_eq_true rfl) (Nat.le_of_ble_eq_true rfl) (Nat.le_of_ble_eq_true rfl) (Nat.le_of_ble_eq_true rfl) (Nat.le_of_ble_eq_true rfl) dX13_twistOf_32 rfl (fun r7 s8 h => ?_)
      exact g_iret B (ty := .int) rfl rfl (Nat.le_of_ble_eq_true rfl) (Nat.le_of_ble_eq_true rfl) dX13_twistOf_35 ⟨_, rfl, h⟩
    · replace h := h.2 q
      refine g_iconst (np := 22) (v := 0) B.1 dX13_twistOf_21 (by decide) rfl ?_
      refine g_goto (tgt := 35) B.1 dX13_twistOf_22 (by decide) ?_
      exact g_iret B (ty := .int) rfl rfl (Nat.le_of_ble_eq_true rfl) (Nat.le_of_ble_eq_true rfl) dX13_twistOf_35 ⟨_, rfl, h⟩
  · replace h := h.2 q
    refine g_iconst (np := 10) (v := 1) B.1 dX13_twistOf_9 (by decide) rfl ?_
    refine g_goto (tgt := 14) B.1 dX13_twistOf_10 (by decide) ?_
    refine g_iconst (np := 15) (v := 1) B.1 dX13_twistOf_14 (by decide) rfl ?_
    refine gc_YModel_65 (np := 18) B   (oX13_isThrown B.1.tr   1 1  _ _ _ h) (Nat.le_of_ble_eq_true rfl) (Nat.le_of_ble_eq_true rfl) (Nat.le_of_ble_eq_true rfl) (Nat.le_of_ble_eq_true rfl) (Nat.le_of_ble_eq_true rfl) dX13_twistOf_15 rfl (fun r9 s10 h => ?_)
    refine g_if_eq (np := 21) (tgt := 25) B.1 dX13_twistOf_18 (by decide) rfl (fun q => ?_) (fun q => ?_)
    · replace h := h.1 q
      refine g_aload_n (np := 26) B.1 dX13_twistOf_25 rfl rfl ?_
      refine g_aload_n (np := 27) B.1 dX13_twistOf_26 rfl rfl ?_
      refine g_iload_n (np := 28) B.1 dX13_twistOf_27 rfl rfl ?_
      refine gc_YModel_103 (np := 31) B   (oX13_order B.1.tr   a1  _ _ _ h) (Nat.le_of_ble_eq_true rfl) (Nat.le_of_ble_eq_true rfl) (Nat.le_of_ble_eq_true rfl) (Nat.le_of_ble_eq_true rfl) (Nat.le_of_ble_eq_true rfl) dX13_twistOf_28 rfl (fun r11 s12 h => ?_)
      refine g_iconst (np := 32) (v := 2) B.1 dX13_twistOf_31 (by decide) rfl ?_
      refine gc_YModel_58 (np := 35) B   (oX13_ofOrder B.1.tr   r11 2  _ _ _ h) (Nat.le_of_ble_eq_true rfl) (Nat.le_of_ble_eq_true rfl) (Nat.le_of_ble_eq_true rfl) (Nat.le_of_ble_eq_true rfl) (Nat.le_of_ble_eq_true rfl) dX13_twistOf_32 rfl (fun r13 s14 h => ?_)
      exact g_iret B (ty := .int) rfl rfl (Nat.le_of_ble_eq_true rfl) (Nat.le_of_ble_eq_true rfl) dX13_twistOf_35 ⟨_, rfl, h⟩
    · replace h := h.2 q
      refine g_iconst (np := 22) (v := 0) B.1 dX13_twistOf_21 (by decide) rfl ?_
      refine g_goto (tgt := 35) B.1 dX13_twistOf_22 (by decide) ?_
      exact g_iret B (ty := .int) rfl rfl (Nat.le_of_ble_eq_true rfl) (Nat.le_of_ble_eq_true rfl) dX13_twistOf_35 ⟨_, rfl, h⟩
def wX13_minutesOf  (a1 : Int32) (s0 : Mem) (Q : Int32 → Mem → Prop) (E : String → Mem → Prop) : Prop := wX13_order  a1 s0 (fun (r1 : Int32) (s2 : Mem) => ((0 ≤ r1 → wX13_isThrown  0 1 s2 (fun (r3 : Int32) (s4 : Mem) => ((r3 = 0 → wX13_order  a1 s4 (fun (r5 : Int32) (s6 : Mem) => wX13_time  r5 s6 (fun (r7 : Int32) (s8 : Mem) => Q r7 s8) E) E) ∧ (¬ r3 = 0 → Q 0 s4))) E) ∧ (¬ 0 ≤ r1 → wX13_isThrown  1 1 s2 (fun (r9 : Int32) (s10 : Mem) => ((r9 = 0 → wX13_order  a1 s10 (fun (r11 : Int32) (s12 : Mem) => wX13_time  r11 s12 (fun (r13 : Int32) (s14 : Mem) => Q r13 s14) E) E) ∧ (¬ r9 = 0 → Q 0 s10))) E))) E
set_option maxRecDepth 20000 in
set_option maxHeartbeats 4000000 in
theorem oX13_minutesOf {l : Launch} {x : Ctx} (hl : l.stackTraces = false)   (a1 : Int32)  (s0 : Mem) (Q : Int32 → Mem → Prop) (E : String → Mem → Prop) (h : wX13_minutesOf  a1 s0 Q E) : MetG l x yX13_minutesOf cX13_minutesOf 2 (some .int) 2 44 0 0 [.ref (xad x 15 0), .int a1] s0 (RI Q) E := by
  refine MetG.of hl (by decide) (Nat.le_of_ble_eq_true rfl) [some (.ref (xad x 15 0)), some (.int a1)] rfl (fun K B hx _ => ?_)
  subst hx
  unfold wX13_minutesOf at h
  refine g_aload_n (np := 1) B.1 dX13_minutesOf_0 rfl rfl ?_
  refine g_aload_n (np := 2) B.1 dX13_minutesOf_1 rfl rfl ?_
  refine g_iload_n (np := 3) B.1 dX13_minutesOf_2 rfl rfl ?_
  refine gc_YModel_103 (np := 6) B   (oX13_order B.1.tr   a1  _ _ _ h) (Nat.le_of_ble_eq_true rfl) (Nat.le_of_ble_eq_true rfl) (Nat.le_of_ble_eq_true rfl) (Nat.le_of_ble_eq_true rfl) (Nat.le_of_ble_eq_true rfl) dX13_minutesOf_3 rfl (fun r1 s2 h => ?_)
  refine g_if_ge (np := 9) (tgt := 13) B.1 dX13_minutesOf_6 (by decide) rfl (fun q => ?_) (fun q => ?_)
  · replace h := h.1 q
    refine g_iconst (np := 14) (v := 0) B.1 dX13_minutesOf_13 (by decide) rfl ?_
    refine g_iconst (np := 15) (v := 1) B.1 dX13_minutesOf_14 (by decide) rfl ?_
    refine gc_YModel_65 (np := 18) B   (oX13_isThrown B.1.tr   0 1  _ _ _ h) (Nat.le_of_ble_eq_true rfl) (Nat.le_of_ble_eq_true rfl) (Nat.le_of_ble_eq_true rfl) (Nat.le_of_ble_eq_true rfl) (Nat.le_of_ble_eq_true rfl) dX13_minutesOf_15 rfl (fun r3 s4 h => ?_)
    refine g_if_eq (np := 21) (tgt := 25) B.1 dX13_minutesOf_18 (by decide) rfl (fun q => ?_) (fun q => ?_)
    · replace h := h.1 q
      refine g_aload_n (np := 26) B.1 dX13_minutesOf_25 rfl rfl ?_
      refine g_aload_n (np := 27) B.1 dX13_minutesOf_26 rfl rfl ?_
      refine g_iload_n (np := 28) B.1 dX13_minutesOf_27 rfl rfl ?_
      refine gc_YModel_103 (np := 31) B   (oX13_order B.1.tr   a1  _ _ _ h) (Nat.le_of_ble_eq_true rfl) (Nat.le_of_ble_eq_true rfl) (Nat.le_of_ble_eq_true rfl) (Nat.le_of_ble_eq_true rfl) (Nat.le_of_ble_eq_true rfl) dX13_minutesOf_28 rfl (fun r5 s6 h => ?_)
      refine gc_YModel_154 (np := 34) B   (oX13_time B.1.tr   r5  _ _ _ h) (Nat.le_of_ble_eq_true rfl) (Nat.le_of_ble_eq_true rfl) (Nat.le_of_ble_eq_true rfl) (Nat.le_of_ble_eq_true rfl) (Nat.le_of_ble_eq_true rfl) dX13_minutesOf_31 rfl (fun r7 s8 h => ?_)
      exact g_iret B (ty := .int) rfl rfl (Nat.le_of_ble_eq_true rfl) (Nat.le_of_ble_eq_true rfl) dX13_minutesOf_34 ⟨_, rfl, h⟩
    · replace h := h.2 q
      refine g_iconst (np := 22) (v := 0) B.1 dX13_minutesOf_21 (by decide) rfl ?_
      refine g_goto (tgt := 34) B.1 dX13_minutesOf_22 (by decide) ?_
      exact g_iret B (ty := .int) rfl rfl (Nat.le_of_ble_eq_true rfl) (Nat.le_of_ble_eq_true rfl) dX13_minutesOf_34 ⟨_, rfl, h⟩
  · replace h := h.2 q
    refine g_iconst (np := 10) (v := 1) B.1 dX13_minutesOf_9 (by decide) rfl ?_
    refine g_goto (tgt := 14) B.1 dX13_minutesOf_10 (by decide) ?_
    refine g_iconst (np := 15) (v := 1) B.1 dX13_minutesOf_14 (by decide) rfl ?_
    refine gc_YModel_65 (np := 18) B   (oX13_isThrown B.1.tr   1 1  _ _ _ h) (Nat.le_of_ble_eq_true rfl) (Nat.le_of_ble_eq_true rfl) (Nat.le_of_ble_eq_true rfl) (Nat.le_of_ble_eq_true rfl) (Nat.le_of_ble_eq_true rfl) dX13_minutesOf_15 rfl (fun r9 s10 h => ?_)
    refine g_if_eq (np := 21) (tgt := 25) B.1 dX13_minutesOf_18 (by decide) rfl (fun q => ?_) (fun q => ?_)
    · replace h := h.1 q
      refine g_aload_n (np := 26) B.1 dX13_minutesOf_25 rfl rfl ?_
      refine g_aload_n (np := 27) B.1 dX13_minutesOf_26 rfl rfl ?_
      refine g_iload_n (np := 28) B.1 dX13_minutesOf_27 rfl rfl ?_
      refine gc_YModel_103 (np := 31) B   (oX13_order B.1.tr   a1  _ _ _ h) (Nat.le_of_ble_eq_true rfl) (Nat.le_of_ble_eq_true rfl) (Nat.le_of_ble_eq_true rfl) (Nat.le_of_ble_eq_true rfl) (Nat.le_of_ble_eq_true rfl) dX13_minutesOf_28 rfl (fun r11 s12 h => ?_)
      refine gc_YModel_154 (np := 34) B   (oX13_time B.1.tr   r11  _ _ _ h) (Nat.le_of_ble_eq_true rfl) (Nat.le_of_ble_eq_true rfl) (Nat.le_of_ble_eq_true rfl) (Nat.le_of_ble_eq_true rfl) (Nat.le_of_ble_eq_true rfl) dX13_minutesOf_31 rfl (fun r13 s14 h => ?_)
      exact g_iret B (ty := .int) rfl rfl (Nat.le_of_ble_eq_true rfl) (Nat.le_of_ble_eq_true rfl) dX13_minutesOf_34 ⟨_, rfl, h⟩
    · replace h := h.2 q
      refine g_iconst (np := 22) (v := 0) B.1 dX13_minutesOf_21 (by decide) rfl ?_
      refine g_goto (tgt := 34) B.1 dX13_minutesOf_22 (by decide) ?_
      exact g_iret B (ty := .int) rfl rfl (Nat.le_of_ble_eq_true rfl) (Nat.le_of_ble_eq_true rfl) dX13_minutesOf_34 ⟨_, rfl, h⟩
def wX13_mayBeSpun  (a1 : Int32) (s0 : Mem) (Q : Int32 → Mem → Prop) (E : String → Mem → Prop) : Prop := wX13_ofOrder  a1 1 s0 (fun (r1 : Int32) (s2 : Mem) => ((rd s0 10 8 1 < r1 → Q 0 s2) ∧ (¬ rd s0 10 8 1 < r1 → wX13_pieces  a1 s2 (fun (r3 : Int32) (s4 : Mem) => ((12 < (rd s2 10 8 13) + r3 → Q 0 s4) ∧ (¬ 12 < (rd s2 10 8 13) + r3 → Q 1 s4))) E))) E
set_option maxRecDepth 20000 in
set_option maxHeartbeats 4000000 in
theorem oX13_mayBeSpun {l : Launch} {x : Ctx} (hl : l.stackTraces = false)   (a1 : Int32)  (s0 : Mem) (Q : Int32 → Mem → Prop) (E : String → Mem → Prop) (h : wX13_mayBeSpun  a1 s0 Q E) : MetG l x yX13_mayBeSpun cX13_mayBeSpun 2 (some .boolean) 2 44 0 0 [.ref (xad x 15 0), .int a1] s0 (RI Q) E := by
  refine MetG.of hl (by decide) (Nat.le_of_ble_eq_true rfl) [some (.ref (xad x 15 0)), some (.int a1)] rfl (fun K B hx _ => ?_)
  subst hx
  unfold wX13_mayBeSpun at h
  refine g_aload_n (np := 1) B.1 dX13_mayBeSpun_0 rfl rfl ?_
  refine gf_YModel_9_15 (np := 4) B.1 dX13_mayBeSpun_1 rfl ?_
  refine g_iconst (np := 5) (v := 1) B.1 dX13_mayBeSpun_4 (by decide) rfl ?_
  refine g_ialdL (np := 6) B.1 10 8 (by decide) rfl rfl 1 (by decide) (vpl (by decide)) dX13_mayBeSpun_5 rfl ?_
  refine g_aload_n (np := 7) B.1 dX13_mayBeSpun_6 rfl rfl ?_
  refine g_iload_n (np := 8) B.1 dX13_mayBeSpun_7 rfl rfl ?_
  refine g_iconst (np := 9) (v := 1) B.1 dX13_mayBeSpun_8 (by decide) rfl ?_
  refine gc_YModel_58 (np := 12) B   (oX13_ofOrder B.1.tr   a1 1  _ _ _ h) (Nat.le_of_ble_eq_true rfl) (Nat.le_of_ble_eq_true rfl) (Nat.le_of_ble_eq_true rfl) (Nat.le_of_ble_eq_true rfl) (Nat.le_of_ble_eq_true rfl) dX13_mayBeSpun_9 rfl (fun r1 s2 h => ?_)
  refine g_icmp_lt (np := 15) (tgt := 37) B.1 dX13_mayBeSpun_12 (by decide) rfl (fun q => ?_) (fun q => ?_)
  · replace h := h.1 q
    refine g_iconst (np := 38) (v := 0) B.1 dX13_mayBeSpun_37 (by decide) rfl ?_
    exact g_iret B (ty := .boolean) rfl (by decide) (Nat.le_of_ble_eq_true rfl) (Nat.le_of_ble_eq_true rfl) dX13_mayBeSpun_38 ⟨_, rfl, h⟩
  · replace h := h.2 q
    refine g_aload_n (np := 16) B.1 dX13_mayBeSpun_15 rfl rfl ?_
    refine gf_YModel_9_15 (np := 19) B.1 dX13_mayBeSpun_16 rfl ?_
    refine g_bipush (np := 21) (v := 13) B.1 dX13_mayBeSpun_19 (by decide) rfl ?_
    refine g_ialdL (np := 22) B.1 10 8 (by decide) rfl rfl 13 (by decide) (vpl (by decide)) dX13_mayBeSpun_21 rfl ?_
    refine g_aload_n (np := 23) B.1 dX13_mayBeSpun_22 rfl rfl ?_
    refine g_iload_n (np := 24) B.1 dX13_mayBeSpun_23 rfl rfl ?_
    refine gc_YModel_112 (np := 27) B   (oX13_pieces B.1.tr   a1  _ _ _ h) (Nat.le_of_ble_eq_true rfl) (Nat.le_of_ble_eq_true rfl) (Nat.le_of_ble_eq_true rfl) (Nat.le_of_ble_eq_true rfl) (Nat.le_of_ble_eq_true rfl) dX13_mayBeSpun_24 rfl (fun r3 s4 h => ?_)
    refine g_iadd (np := 28) B.1 dX13_mayBeSpun_27 rfl ?_
    refine g_bipush (np := 30) (v := 12) B.1 dX13_mayBeSpun_28 (by decide) rfl ?_
    refine g_icmp_gt (np := 33) (tgt := 37) B.1 dX13_mayBeSpun_30 (by decide) rfl (fun q => ?_) (fun q => ?_)
    · replace h := h.1 q
      refine g_iconst (np := 38) (v := 0) B.1 dX13_mayBeSpun_37 (by decide) rfl ?_
      exact g_iret B (ty := .boolean) rfl (by decide) (Nat.le_of_ble_eq_true rfl) (Nat.le_of_ble_eq_true rfl) dX13_mayBeSpun_38 ⟨_, rfl, h⟩
    · replace h := h.2 q
      refine g_iconst (np := 34) (v := 1) B.1 dX13_mayBeSpun_33 (by decide) rfl ?_
      refine g_goto (tgt := 38) B.1 dX13_mayBeSpun_34 (by decide) ?_
      exact g_iret B (ty := .boolean) rfl (by decide) (Nat.le_of_ble_eq_true rfl) (Nat.le_of_ble_eq_true rfl) dX13_mayBeSpun_38 ⟨_, rfl, h⟩
def wX13_canSpin  (a1 : Int32) (s0 : Mem) (Q : Int32 → Mem → Prop) (E : String → Mem → Prop) : Prop := wX13_order  a1 s0 (fun (r1 : Int32) (s2 : Mem) => ((0 ≤ r1 → wX13_isThrown  0 1 s2 (fun (r3 : Int32) (s4 : Mem) => ((¬ r3 = 0 → Q 0 s4) ∧ (r3 = 0 → wX13_order  a1 s4 (fun (r5 : Int32) (s6 : Mem) => wX13_mayBeSpun  r5 s6 (fun (r7 : Int32) (s8 : Mem) => ((r7 = 0 → Q 0 s8) ∧ (¬ r7 = 0 → Q 1 s8))) E) E))) E) ∧ (¬ 0 ≤ r1 → wX13_isThrown  1 1 s2 (fun (r9 : Int32) (s10 : Mem) => ((¬ r9 = 0 → Q 0 s10) ∧ (r9 = 0 → wX13_order  a1 s10 (fun (r11 : Int32) (s12 : Mem) => wX13_mayBeSpun  r11 s12 (fun (r13 : Int32) (s14 : Mem) => ((r13 = 0 → Q 0 s14) ∧ (¬ r13 = 0 → Q 1 s14))) E) E))) E))) E
set_option maxRecDepth 20000 in
set_option maxHeartbeats 4000000 in
theorem oX13_canSpin {l : Launch} {x : Ctx} (hl : l.stackTraces = false)   (a1 : Int32)  (s0 : Mem) (Q : Int32 → Mem → Prop) (E : String → Mem → Prop) (h : wX13_canSpin  a1 s0 Q E) : MetG l x yX13_canSpin cX13_canSpin 2 (some .boolean) 3 65 0 0 [.ref (xad x 15 0), .int a1] s0 (RI Q) E := by
  refine MetG.of hl (by decide) (Nat.le_of_ble_eq_true rfl) [some (.ref (xad x 15 0)), some (.int a1)] rfl (fun K B hx _ => ?_)
  subst hx
  unfold wX13_canSpin at h
  refine g_aload_n (np := 1) B.1 dX13_canSpin_0 rfl rfl ?_
  refine g_aload_n (np := 2) B.1 dX13_canSpin_1 rfl rfl ?_
  refine g_iload_n (np := 3) B.1 dX13_canSpin_2 rfl rfl ?_
  refine gc_YModel_103 (np := 6) B   (oX13_order B.1.tr   a1  _ _ _ h) (Nat.le_of_ble_eq_true rfl) (Nat.le_of_ble_eq_true rfl) (Nat.le_of_ble_eq_true rfl) (Nat.le_of_ble_eq_true rfl) (Nat.le_of_ble_eq_true rfl) dX13_canSpin_3 rfl (fun r1 s2 h => ?_)
  refine g_if_ge (np := 9) (tgt := 13) B.1 dX13_canSpin_6 (by decide) rfl (fun q => ?_) (fun q => ?_)
  · replace h := h.1 q
    refine g_iconst (np := 14) (v := 0) B.1 dX13_canSpin_13 (by decide) rfl ?_
    refine g_iconst (np := 15) (v := 1) B.1 dX13_canSpin_14 (by decide) rfl ?_
    refine gc_YModel_65 (np := 18) B   (oX13_isThrown B.1.tr   0 1  _ _ _ h) (Nat.le_of_ble_eq_true rfl) (Nat.le_of_ble_eq_true rfl) (Nat.le_of_ble_eq_true rfl) (Nat.le_of_ble_eq_true rfl) (Nat.le_of_ble_eq_true rfl) dX13_canSpin_15 rfl (fun r3 s4 h => ?_)
    refine g_if_ne (np := 21) (tgt := 37) B.1 dX13_canSpin_18 (by decide) rfl (fun q => ?_) (fun q => ?_)
    · replace h := h.1 q
      refine g_iconst (np := 38) (v := 0) B.1 dX13_canSpin_37 (by decide) rfl ?_
      exact g_iret B (ty := .boolean) rfl (by decide) (Nat.le_of_ble_eq_true rfl) (Nat.le_of_ble_eq_true rfl) dX13_canSpin_38 ⟨_, rfl, h⟩
    · replace h := h.2 q
      refine g_aload_n (np := 22) B.1 dX13_canSpin_21 rfl rfl ?_
      refine g_aload_n (np := 23) B.1 dX13_canSpin_22 rfl rfl ?_
      refine g_iload_n (np := 24) B.1 dX13_canSpin_23 rfl rfl ?_
      refine gc_YModel_103 (np := 27) B   (oX13_order B.1.tr   a1  _ _ _ h) (Nat.le_of_ble_eq_true rfl) (Nat.le_of_ble_eq_true rfl) (Nat.le_of_ble_eq_true rfl) (Nat.le_of_ble_eq_true rfl) (Nat.le_of_ble_eq_true rfl) dX13_canSpin_24 rfl (fun r5 s6 h => ?_)
      refine gc_YModel_157 (np := 30) B   (oX13_mayBeSpun B.1.tr   r5  _ _ _ h) (Nat.le_of_ble_eq_true rfl) (Nat.le_of_ble_eq_true rfl) (Nat.le_of_ble_eq_true rfl) (Nat.le_of_ble_eq_true rfl) (Nat.le_of_ble_eq_true rfl) dX13_canSpin_27 rfl (fun r7 s8 h => ?_)
      refine g_if_eq (np := 33) (tgt := 37) B.1 dX13_canSpin_30 (by decide) rfl (fun q => ?_) (fun q => ?_)
      · replace h := h.1 q
        refine g_iconst (np := 38) (v := 0) B.1 dX13_canSpin_37 (by decide) rfl ?_
        exact g_iret B (ty := .boolean) rfl (by decide) (Nat.le_of_ble_eq_true rfl) (Nat.le_of_ble_eq_true rfl) dX13_canSpin_38 ⟨_, rfl, h⟩
      · replace h := h.2 q
        refine g_iconst (np := 34) (v := 1) B.1 dX13_canSpin_33 (by decide) rfl ?_
        refine g_goto (tgt := 38) B.1 dX13_canSpin_34 (by decide) ?_
        exact g_iret B (ty := .boolean) rfl (by decide) (Nat.le_of_ble_eq_true rfl) (Nat.le_of_ble_eq_true rfl) dX13_canSpin_38 ⟨_, rfl, h⟩
  · replace h := h.2 q
    refine g_iconst (np := 10) (v := 1) B.1 dX13_canSpin_9 (by decide) rfl ?_
    refine g_goto (tgt := 14) B.1 dX13_canSpin_10 (by decide) ?_
    refine g_iconst (np := 15) (v := 1) B.1 dX13_canSpin_14 (by decide) rfl ?_
    refine gc_YModel_65 (np := 18) B   (oX13_isThrown B.1.tr   1 1  _ _ _ h) (Nat.le_of_ble_eq_true rfl) (Nat.le_of_ble_eq_true rfl) (Nat.le_of_ble_eq_true rfl) (Nat.le_of_ble_eq_true rfl) (Nat.le_of_ble_eq_true rfl) dX13_canSpin_15 rfl (fun r9 s10 h => ?_)
    refine g_if_ne (np := 21) (tgt := 37) B.1 dX13_canSpin_18 (by decide) rfl (fun q => ?_) (fun q => ?_)
    · replace h := h.1 q
      refine g_iconst (np := 38) (v := 0) B.1 dX13_canSpin_37 (by decide) rfl ?_
      exact g_iret B (ty := .boolean) rfl (by decide) (Nat.le_of_ble_eq_true rfl) (Nat.le_of_ble_eq_true rfl) dX13_canSpin_38 ⟨_, rfl, h⟩
    · replace h := h.2 q
      refine g_aload_n (np := 22) B.1 dX13_canSpin_21 rfl rfl ?_
      refine g_aload_n (np := 23) B.1 dX13_canSpin_22 rfl rfl ?_
      refine g_iload_n (np := 24) B.1 dX13_canSpin_23 rfl rfl ?_
      refine gc_YModel_103 (np := 27) B   (oX13_order B.1.tr   a1  _ _ _ h) (Nat.le_of_ble_eq_true rfl) (Nat.le_of_ble_eq_true rfl) (Nat.le_of_ble_eq_true rfl) (Nat.le_of_ble_eq_true rfl) (Nat.le_of_ble_eq_true rfl) dX13_canSpin_24 rfl (fun r11 s12 h => ?_)
      refine gc_YModel_157 (np := 30) B   (oX13_mayBeSpun B.1.tr   r11  _ _ _ h) (Nat.le_of_ble_eq_true rfl) (Nat.le_of_ble_eq_true rfl) (Nat.le_of_ble_eq_true rfl) (Nat.le_of_ble_eq_true rfl) (Nat.le_of_ble_eq_true rfl) dX13_canSpin_27 rfl (fun r13 s14 h => ?_)
      refine g_if_eq (np := 33) (tgt := 37) B.1 dX13_canSpin_30 (by decide) rfl (fun q => ?_) (fun q => ?_)
      · replace h := h.1 q
        refine g_iconst (np := 38) (v := 0) B.1 dX13_canSpin_37 (by decide) rfl ?_
        exact g_iret B (ty := .boolean) rfl (by decide) (Nat.le_of_ble_eq_true rfl) (Nat.le_of_ble_eq_true rfl) dX13_canSpin_38 ⟨_, rfl, h⟩
      · replace h := h.2 q
        refine g_iconst (np := 34) (v := 1) B.1 dX13_canSpin_33 (by decide) rfl ?_
        refine g_goto (tgt := 38) B.1 dX13_canSpin_34 (by decide) ?_
        exact g_iret B (ty := .boolean) rfl (by decide) (Nat.le_of_ble_eq_true rfl) (Nat.le_of_ble_eq_true rfl) dX13_canSpin_38 ⟨_, rfl, h⟩
def wX13_kinds_25   (Q : Int32 → Mem → Prop) (E : String → Mem → Prop)  (X77 : Int32 → Int32 → Int32 → Mem → Prop) : Nat → Int32 → Int32 → Int32 → Int32 → Mem → Prop
  | 0, _, _, _, _, _ => False
  | n25 + 1, v1, v2, v3, v4, s0 => ((v2 ≤ v4 → X77 v1 v2 v3 s0) ∧ (¬ v2 ≤ v4 → wX13_ofOrder  v4 1 s0 (fun (r2 : Int32) (s3 : Mem) => wX13_ofOrder  v2 1 s3 (fun (r4 : Int32) (s5 : Mem) => ((¬ r2 = r4 → ∀ v3_6 : Int32, v3_6 = (v3 &&& 1) → ∀ v4_7 : Int32, v4_7 = (v4 + 1) → wX13_kinds_25   Q E X77 n25 v1 v2 v3_6 v4_7 s5) ∧ (r2 = r4 → wX13_ofOrder  v4 2 s5 (fun (r8 : Int32) (s9 : Mem) => wX13_ofOrder  v2 2 s9 (fun (r10 : Int32) (s11 : Mem) => ((r8 = r10 → ∀ v3_12 : Int32, v3_12 = (v3 &&& 0) → ∀ v4_13 : Int32, v4_13 = (v4 + 1) → wX13_kinds_25   Q E X77 n25 v1 v2 v3_12 v4_13 s11) ∧ (¬ r8 = r10 → ∀ v3_14 : Int32, v3_14 = (v3 &&& 1) → ∀ v4_15 : Int32, v4_15 = (v4 + 1) → wX13_kinds_25   Q E X77 n25 v1 v2 v3_14 v4_15 s11))) E) E))) E) E))
def wX13_kinds_9   (Q : Int32 → Mem → Prop) (E : String → Mem → Prop)  (X95 : Int32 → Mem → Prop) : Nat → Int32 → Int32 → Mem → Prop
  | 0, _, _, _ => False
  | n9 + 1, v1, v2, s0 => ((rd s0 10 8 12 ≤ v2 → X95 v1 s0) ∧ (¬ rd s0 10 8 12 ≤ v2 → ∃ m24 : Nat, wX13_kinds_25   Q E (fun (x1_16 : Int32) (x2_17 : Int32) (x3_18 : Int32) (s19 : Mem) => ((x3_18 = 0 → ∀ v1_20 : Int32, v1_20 = (x1_16 + 0) → ∀ v2_21 : Int32, v2_21 = (x2_17 + 1) → wX13_kinds_9   Q E X95 n9 v1_20 v2_21 s19) ∧ (¬ x3_18 = 0 → ∀ v1_22 : Int32, v1_22 = (x1_16 + 1) → ∀ v2_23 : Int32, v2_23 = (x2_17 + 1) → wX13_kinds_9   Q E X95 n9 v1_22 v2_23 s19))) m24 v1 v2 1 0  s0))
def wX13_kinds   (s0 : Mem) (Q : Int32 → Mem → Prop) (E : String → Mem → Prop) : Prop := ∀ s1 : Mem, s1 = wr s0 15 0 7 0 → ∃ m27 : Nat, wX13_kinds_9   Q E (fun (x1_25 : Int32) (s26 : Mem) => Q x1_25 s26) m27 0 0  s1
set_option maxRecDepth 20000 in
set_option maxHeartbeats 4000000 in
theorem oX13_kinds_25 {K : Fr} {Q : Int32 → Mem → Prop} {E : String → Mem → Prop} (B : Bd K cX13_kinds "YarnMillModel" 5 (some .int) 1 22 0 0 (RI Q) E)    {X77 : Int32 → Int32 → Int32 → Mem → Prop} {cells slots : Nat} (hX77 : ∀ (y1 : Int32) (y2 : Int32) (y3 : Int32) (τ : Mem), X77 y1 y2 y3 τ → Go K cells slots τ 77 [some (.ref (xad (fX K) 15 0)), some (.int y1), some (.int y2), some (.int y3), none] ([])) (hc : cells ≤ 0) (hs : slots ≤ 0) : ∀ (n : Nat) (v1 : Int32) (v2 : Int32) (v3 : Int32) (v4 : Int32) (s0 : Mem), wX13_kinds_25   Q E X77 n v1 v2 v3 v4 s0 → Go K cells slots s0 25 [some (.ref (xad (fX K) 15 0)), some (.int v1), some (.int v2), some (.int v3), some (.int v4)] ([]) := by
  intro n
  induction n with
  | zero => intro v1 v2 v3 v4 s0 h; exact absurd h (by simp [wX13_kinds_25])
  | succ n ih =>
    intro v1 v2 v3 v4 s0 h
    simp only [wX13_kinds_25] at h
    refine g_iload (np := 27) B.1 dX13_kinds_25 rfl rfl ?_
    refine g_iload_n (np := 28) B.1 dX13_kinds_27 rfl rfl ?_
    refine g_icmp_ge (np := 31) (tgt := 77) B.1 dX13_kinds_28 (by decide) rfl (fun q => ?_) (fun q => ?_)
    · replace h := h.1 q
      refine Go.lle [some (.ref (xad (fX K) 15 0)), some (.int v1), some (.int v2), some (.int v3), none] (by simp [lle]) ?_
      exact hX77 v1 v2 v3 s0 h
    · replace h := h.2 q
      refine g_iload_n (np := 32) B.1 dX13_kinds_31 rfl rfl ?_
      refine g_aload_n (np := 33) B.1 dX13_kinds_32 rfl rfl ?_
      refine g_iload (np := 35) B.1 dX13_kinds_33 rfl rfl ?_
      refine g_iconst (np := 36) (v := 1) B.1 dX13_kinds_35 (by decide) rfl ?_
      refine gc_YModel_58 (np := 39) B   (oX13_ofOrder B.1.tr   v4 1  _ _ _ h) (Nat.le_of_ble_eq_true rfl) (Nat.le_of_ble_eq_true rfl) (Nat.le_of_ble_eq_true rfl) hc hs dX13_kinds_36 rfl (fun r2 s3 h => ?_)
      refine g_aload_n (np := 40) B.1 dX13_kinds_39 rfl rfl ?_
      refine g_iload_n (np := 41) B.1 dX13_kinds_40 rfl rfl ?_
      refine g_iconst (np := 42) (v := 1) B.1 dX13_kinds_41 (by decide) rfl ?_
      refine gc_YModel_58 (np := 45) B   (oX13_ofOrder B.1.tr   v2 1  _ _ _ h) (Nat.le_of_ble_eq_true rfl) (Nat.le_of_ble_eq_true rfl) (Nat.le_of_ble_eq_true rfl) hc hs dX13_kinds_42 rfl (fun r4 s5 h => ?_)
      refine g_icmp_ne (np := 48) (tgt := 64) B.1 dX13_kinds_45 (by decide) rfl (fun q => ?_) (fun q => ?_)
      · replace h := h.1 q
        refine g_iconst (np := 65) (v := 1) B.1 dX13_kinds_64 (by decide) rfl ?_
        refine g_goto (tgt := 69) B.1 dX13_kinds_65 (by decide) ?_
        refine g_iand (np := 70) B.1 dX13_kinds_69 rfl ?_
        refine g_topi (fun v3_6 ev3_6 => ?_)
        replace h := h v3_6 ev3_6
        refine g_istore_n (np := 71) (lv' := [some (.ref (xad (fX K) 15 0)), some (.int v1), some (.int v2), some (.int v3_6), some (.int v4)]) B.1 dX13_kinds_70 (by decide) rfl rfl rfl ?_
        obtain ⟨v4_7, ev4_7⟩ : ∃ y : Int32, y = v4 + 1 := ⟨_, rfl⟩
        replace h := h v4_7 ev4_7
        refine g_iinc (np := 74) (v := v4_7) (lv' := [some (.ref (xad (fX K) 15 0)), some (.int v1), some (.int v2), some (.int v3_6), some (.int v4_7)]) B.1 dX13_kinds_71 rfl (by rw [ev4_7]; rfl) (by decide) rfl rfl rfl ?_
        refine g_goto (tgt := 25) B.1 dX13_kinds_74 (by decide) ?_
        refine Go.lle [some (.ref (xad (fX K) 15 0)), some (.int v1), some (.int v2), some (.int v3_6), some (.int v4_7)] (by simp [lle]) ?_
        exact ih v1 v2 v3_6 v4_7 s5 h
      · replace h := h.2 q
        refine g_aload_n (np := 49) B.1 dX13_kinds_48 rfl rfl ?_
        refine g_iload (np := 51) B.1 dX13_kinds_49 rfl rfl ?_
        refine g_iconst (np := 52) (v := 2) B.1 dX13_kinds_51 (by decide) rfl ?_
        refine gc_YModel_58 (np := 55) B   (oX13_ofOrder B.1.tr   v4 2  _ _ _ h) (Nat.le_of_ble_eq_true rfl) (Nat.le_of_ble_eq_true rfl) (Nat.le_of_ble_eq_true rfl) hc hs dX13_kinds_52 rfl (fun r8 s9 h => ?_)
        refine g_aload_n (np := 56) B.1 dX13_kinds_55 rfl rfl ?_
        refine g_iload_n (np := 57) B.1 dX13_kinds_56 rfl rfl ?_
        refine g_iconst (np := 58) (v := 2) B.1 dX13_kinds_57 (by decide) rfl ?_
        refine gc_YModel_58 (np := 61) B   (oX13_ofOrder B.1.tr   v2 2  _ _ _ h) (Nat.le_of_ble_eq_true rfl) (Nat.le_of_ble_eq_true rfl) (Nat.le_of_ble_eq_true rfl) hc hs dX13_kinds_58 rfl (fun r10 s11 h => ?_)
        refine g_icmp_eq (np := 64) (tgt := 68) B.1 dX13_kinds_61 (by decide) rfl (fun q => ?_) (fun q => ?_)
        · replace h := h.1 q
          refine g_iconst (np := 69) (v := 0) B.1 dX13_kinds_68 (by decide) rfl ?_
          refine g_iand (np := 70) B.1 dX13_kinds_69 rfl ?_
          refine g_topi (fun v3_12 ev3_12 => ?_)
          replace h := h v3_12 ev3_12
          refine g_istore_n (np := 71) (lv' := [some (.ref (xad (fX K) 15 0)), some (.int v1), some (.int v2), some (.int v3_12), some (.int v4)]) B.1 dX13_kinds_70 (by decide) rfl rfl rfl ?_
          obtain ⟨v4_13, ev4_13⟩ : ∃ y : Int32, y = v4 + 1 := ⟨_, rfl⟩
          replace h := h v4_13 ev4_13
          refine g_iinc (np := 74) (v := v4_13) (lv' := [some (.ref (xad (fX K) 15 0)), some (.int v1), some (.int v2), some (.int v3_12), some (.int v4_13)]) B.1 dX13_kinds_71 rfl (by rw [ev4_13]; rfl) (by decide) rfl rfl rfl ?_
          refine g_goto (tgt := 25) B.1 dX13_kinds_74 (by decide) ?_
          refine Go.lle [some (.ref (xad (fX K) 15 0)), some (.int v1), some (.int v2), some (.int v3_12), some (.int v4_13)] (by simp [lle]) ?_
          exact ih v1 v2 v3_12 v4_13 s11 h
        · replace h := h.2 q
          refine g_iconst (np := 65) (v := 1) B.1 dX13_kinds_64 (by decide) rfl ?_
          refine g_goto (tgt := 69) B.1 dX13_kinds_65 (by decide) ?_
          refine g_iand (np := 70) B.1 dX13_kinds_69 rfl ?_
          refine g_topi (fun v3_14 ev3_14 => ?_)
          replace h := h v3_14 ev3_14
          refine g_istore_n (np := 71) (lv' := [some (.ref (xad (fX K) 15 0)), some (.int v1), some (.int v2), some (.int v3_14), some (.int v4)]) B.1 dX13_kinds_70 (by decide) rfl rfl rfl ?_
          obtain ⟨v4_15, ev4_15⟩ : ∃ y : Int32, y = v4 + 1 := ⟨_, rfl⟩
          replace h := h v4_15 ev4_15
          refine g_iinc (np := 74) (v := v4_15) (lv' := [some (.ref (xad (fX K) 15 0)), some (.int v1), some (.int v2), some (.int v3_14), some (.int v4_15)]) B.1 dX13_kinds_71 rfl (by rw [ev4_15]; rfl) (by decide) rfl rfl rfl ?_
          refine g_goto (tgt := 25) B.1 dX13_kinds_74 (by decide) ?_
          refine Go.lle [some (.ref (xad (fX K) 15 0)), some (.int v1), some (.int v2), some (.int v3_14), some (.int v4_15)] (by simp [lle]) ?_
          exact ih v1 v2 v3_14 v4_15 s11 h
set_option maxRecDepth 20000 in
set_option maxHeartbeats 4000000 in
theorem oX13_kinds_9 {K : Fr} {Q : Int32 → Mem → Prop} {E : String → Mem → Prop} (B : Bd K cX13_kinds "YarnMillModel" 5 (some .int) 1 22 0 0 (RI Q) E)    {X95 : Int32 → Mem → Prop} {cells slots : Nat} (hX95 : ∀ (y1 : Int32) (τ : Mem), X95 y1 τ → Go K cells slots τ 95 [none, some (.int y1), none, none, none] ([])) (hc : cells ≤ 0) (hs : slots ≤ 0) : ∀ (n : Nat) (v1 : Int32) (v2 : Int32) (s0 : Mem), wX13_kinds_9   Q E X95 n v1 v2 s0 → Go K cells slots s0 9 [some (.ref (xad (fX K) 15 0)), some (.int v1), some (.int v2), none, none] ([]) := by
  intro n
  induction n with
  | zero => intro v1 v2 s0 h; exact absurd h (by simp [wX13_kinds_9])
  | succ n ih =>
    intro v1 v2 s0 h
    simp only [wX13_kinds_9] at h
    refine g_iload_n (np := 10) B.1 dX13_kinds_9 rfl rfl ?_
    refine g_aload_n (np := 11) B.1 dX13_kinds_10 rfl rfl ?_
    refine gf_YModel_9_15 (np := 14) B.1 dX13_kinds_11 rfl ?_
    refine g_bipush (np := 16) (v := 12) B.1 dX13_kinds_14 (by decide) rfl ?_
    refine g_ialdL (np := 17) B.1 10 8 (by decide) rfl rfl 12 (by decide) (vpl (by decide)) dX13_kinds_16 rfl ?_
    refine g_icmp_ge (np := 20) (tgt := 95) B.1 dX13_kinds_17 (by decide) rfl (fun q => ?_) (fun q => ?_)
    · replace h := h.1 q
      refine Go.lle [none, some (.int v1), none, none, none] (by simp [lle]) ?_
      exact hX95 v1 s0 h
    · replace h := h.2 q
      refine g_iconst (np := 21) (v := 1) B.1 dX13_kinds_20 (by decide) rfl ?_
      refine g_istore_n (np := 22) (lv' := [some (.ref (xad (fX K) 15 0)), some (.int v1), some (.int v2), some (.int 1), none]) B.1 dX13_kinds_21 (by decide) rfl rfl rfl ?_
      refine g_iconst (np := 23) (v := 0) B.1 dX13_kinds_22 (by decide) rfl ?_
      refine g_istore (np := 25) (lv' := [some (.ref (xad (fX K) 15 0)), some (.int v1), some (.int v2), some (.int 1), some (.int 0)]) B.1 dX13_kinds_23 (by decide) rfl rfl rfl ?_
      obtain ⟨m24, h⟩ := h
      refine Go.lle [some (.ref (xad (fX K) 15 0)), some (.int v1), some (.int v2), some (.int 1), some (.int 0)] (by simp [lle]) ?_
      refine oX13_kinds_25 B    (fun x1_16 x2_17 x3_18 s19 h => ?_) hc hs m24 v1 v2 1 0  s0 h
      refine g_iload_n (np := 78) B.1 dX13_kinds_77 rfl rfl ?_
      refine g_iload_n (np := 79) B.1 dX13_kinds_78 rfl rfl ?_
      refine g_if_eq (np := 82) (tgt := 86) B.1 dX13_kinds_79 (by decide) rfl (fun q => ?_) (fun q => ?_)
      · replace h := h.1 q
        refine g_iconst (np := 87) (v := 0) B.1 dX13_kinds_86 (by decide) rfl ?_
        refine g_iadd (np := 88) B.1 dX13_kinds_87 rfl ?_
        refine g_topi (fun v1_20 ev1_20 => ?_)
        replace h := h v1_20 ev1_20
        refine g_istore_n (np := 89) (lv' := [some (.ref (xad (fX K) 15 0)), some (.int v1_20), some (.int x2_17), some (.int x3_18), none]) B.1 dX13_kinds_88 (by decide) rfl rfl rfl ?_
        obtain ⟨v2_21, ev2_21⟩ : ∃ y : Int32, y = x2_17 + 1 := ⟨_, rfl⟩
        replace h := h v2_21 ev2_21
        refine g_iinc (np := 92) (v := v2_21) (lv' := [some (.ref (xad (fX K) 15 0)), some (.int v1_20), some (.int v2_21), some (.int x3_18), none]) B.1 dX13_kinds_89 rfl (by rw [ev2_21]; rfl) (by decide) rfl rfl rfl ?_
        refine g_goto (tgt := 9) B.1 dX13_kinds_92 (by decide) ?_
        refine Go.lle [some (.ref (xad (fX K) 15 0)), some (.int v1_20), some (.int v2_21), none, none] (by simp [lle]) ?_
        exact ih v1_20 v2_21 s19 h
      · replace h := h.2 q
        refine g_iconst (np := 83) (v := 1) B.1 dX13_kinds_82 (by decide) rfl ?_
        refine g_goto (tgt := 87) B.1 dX13_kinds_83 (by decide) ?_
        refine g_iadd (np := 88) B.1 dX13_kinds_87 rfl ?_
        refine g_topi (fun v1_22 ev1_22 => ?_)
        replace h := h v1_22 ev1_22
        refine g_istore_n (np := 89) (lv' := [some (.ref (xad (fX K) 15 0)), some (.int v1_22), some (.int x2_17), some (.int x3_18), none]) B.1 dX13_kinds_88 (by decide) rfl rfl rfl ?_
        obtain ⟨v2_23, ev2_23⟩ : ∃ y : Int32, y = x2_17 + 1 := ⟨_, rfl⟩
        replace h := h v2_23 ev2_23
        refine g_iinc (np := 92) (v := v2_23) (lv' := [some (.ref (xad (fX K) 15 0)), some (.int v1_22), some (.int v2_23), some (.int x3_18), none]) B.1 dX13_kinds_89 rfl (by rw [ev2_23]; rfl) (by decide) rfl rfl rfl ?_
        refine g_goto (tgt := 9) B.1 dX13_kinds_92 (by decide) ?_
        refine Go.lle [some (.ref (xad (fX K) 15 0)), some (.int v1_22), some (.int v2_23), none, none] (by simp [lle]) ?_
        exact ih v1_22 v2_23 s19 h
set_option maxRecDepth 20000 in
set_option maxHeartbeats 4000000 in
theorem oX13_kinds {l : Launch} {x : Ctx} (hl : l.stackTraces = false)     (s0 : Mem) (Q : Int32 → Mem → Prop) (E : String → Mem → Prop) (h : wX13_kinds   s0 Q E) : MetG l x yX13_kinds cX13_kinds 5 (some .int) 1 22 0 0 [.ref (xad x 15 0)] s0 (RI Q) E := by
  refine MetG.of hl (by decide) (Nat.le_of_ble_eq_true rfl) [some (.ref (xad x 15 0)), none, none, none, none] rfl (fun K B hx _ => ?_)
  subst hx
  unfold wX13_kinds at h
  refine g_aload_n (np := 1) B.1 dX13_kinds_0 rfl rfl ?_
  refine g_iconst (np := 2) (v := 0) B.1 dX13_kinds_1 (by decide) rfl ?_
  refine gp_YModel_44_15 (np := 5) B.1 dX13_kinds_2 rfl ?_
  refine g_mem (fun s1 es1 => ?_)
  replace h := h s1 es1
  refine g_iconst (np := 6) (v := 0) B.1 dX13_kinds_5 (by decide) rfl ?_
  refine g_istore_n (np := 7) (lv' := [some (.ref (xad (fX K) 15 0)), some (.int 0), none, none, none]) B.1 dX13_kinds_6 (by decide) rfl rfl rfl ?_
  refine g_iconst (np := 8) (v := 0) B.1 dX13_kinds_7 (by decide) rfl ?_
  refine g_istore_n (np := 9) (lv' := [some (.ref (xad (fX K) 15 0)), some (.int 0), some (.int 0), none, none]) B.1 dX13_kinds_8 (by decide) rfl rfl rfl ?_
  obtain ⟨m27, h⟩ := h
  refine Go.lle [some (.ref (xad (fX K) 15 0)), some (.int 0), some (.int 0), none, none] (by simp [lle]) ?_
  refine oX13_kinds_9 B    (fun x1_25 s26 h => ?_) (Nat.le_of_ble_eq_true rfl) (Nat.le_of_ble_eq_true rfl) m27 0 0  s1 h
  refine g_iload_n (np := 96) B.1 dX13_kinds_95 rfl rfl ?_
  exact g_iret B (ty := .int) rfl rfl (Nat.le_of_ble_eq_true rfl) (Nat.le_of_ble_eq_true rfl) dX13_kinds_96 ⟨_, rfl, h⟩
def wX13_orderByTime_18   (Q : Int32 → Mem → Prop) (E : String → Mem → Prop)  (X74 : Int32 → Int32 → Int32 → Mem → Prop) : Nat → Int32 → Int32 → Int32 → Int32 → Mem → Prop
  | 0, _, _, _, _, _ => False
  | n18 + 1, v1, v2, v3, v4, s0 => ((rd s0 10 8 12 ≤ v4 → X74 v1 v2 v3 s0) ∧ (¬ rd s0 10 8 12 ≤ v4 → wX13_time  v4 s0 (fun (r1 : Int32) (s2 : Mem) => wX13_time  v2 s2 (fun (r3 : Int32) (s4 : Mem) => ∀ v5_5 : Int32, v5_5 = (r1 - r3) → ((0 < v5_5 → ∀ v3_6 : Int32, v3_6 = (v3 + 1) → ∀ v4_7 : Int32, v4_7 = (v4 + 1) → wX13_orderByTime_18   Q E X74 n18 v1 v2 v3_6 v4_7 s4) ∧ (¬ 0 < v5_5 → ((¬ v5_5 = 0 → ∀ v3_8 : Int32, v3_8 = (v3 + 0) → ∀ v4_9 : Int32, v4_9 = (v4 + 1) → wX13_orderByTime_18   Q E X74 n18 v1 v2 v3_8 v4_9 s4) ∧ (v5_5 = 0 → ((v2 ≤ v4 → ∀ v3_10 : Int32, v3_10 = (v3 + 0) → ∀ v4_11 : Int32, v4_11 = (v4 + 1) → wX13_orderByTime_18   Q E X74 n18 v1 v2 v3_10 v4_11 s4) ∧ (¬ v2 ≤ v4 → ∀ v3_12 : Int32, v3_12 = (v3 + 1) → ∀ v4_13 : Int32, v4_13 = (v4 + 1) → wX13_orderByTime_18   Q E X74 n18 v1 v2 v3_12 v4_13 s4))))))) E) E))
def wX13_orderByTime_2   (Q : Int32 → Mem → Prop) (E : String → Mem → Prop)  (X79 : Int32 → Mem → Prop) (X97 : Mem → Prop) : Nat → Int32 → Int32 → Mem → Prop
  | 0, _, _, _ => False
  | n2 + 1, v1, v2, s0 => ((rd s0 10 8 12 ≤ v2 → X97  s0) ∧ (¬ rd s0 10 8 12 ≤ v2 → ∃ m19 : Nat, wX13_orderByTime_18   Q E (fun (x1_14 : Int32) (x2_15 : Int32) (x3_16 : Int32) (s17 : Mem) => ((¬ x3_16 = x1_14 → ∀ v2_18 : Int32, v2_18 = (x2_15 + 1) → wX13_orderByTime_2   Q E X79 X97 n2 x1_14 v2_18 s17) ∧ (x3_16 = x1_14 → X79 x2_15 s17))) m19 v1 v2 0 0  s0))
def wX13_orderByTime  (a1 : Int32) (s0 : Mem) (Q : Int32 → Mem → Prop) (E : String → Mem → Prop) : Prop := ∃ m27 : Nat, wX13_orderByTime_2   Q E (fun (x2_20 : Int32) (s21 : Mem) => ∀ s22 : Mem, s22 = wr s21 15 0 7 0 → wX13_ofOrder  x2_20 0 s22 (fun (r23 : Int32) (s24 : Mem) => Q r23 s24) E) (fun (s25 : Mem) => ∀ s26 : Mem, s26 = wr s25 15 0 7 1 → Q 0 s26) m27 a1 0  s0
set_option maxRecDepth 20000 in
set_option maxHeartbeats 4000000 in
theorem oX13_orderByTime_18 {K : Fr} {Q : Int32 → Mem → Prop} {E : String → Mem → Prop} (B : Bd K cX13_orderByTime "YarnMillModel" 6 (some .int) 2 43 0 0 (RI Q) E)    {X74 : Int32 → Int32 → Int32 → Mem → Prop} {cells slots : Nat} (hX74 : ∀ (y1 : Int32) (y2 : Int32) (y3 : Int32) (τ : Mem), X74 y1 y2 y3 τ → Go K cells slots τ 74 [some (.ref (xad (fX K) 15 0)), some (.int y1), some (.int y2), some (.int y3), none, none] ([])) (hc : cells ≤ 0) (hs : slots ≤ 0) : ∀ (n : Nat) (v1 : Int32) (v2 : Int32) (v3 : Int32) (v4 : Int32) (s0 : Mem), wX13_orderByTime_18   Q E X74 n v1 v2 v3 v4 s0 → Go K cells slots s0 18 [some (.ref (xad (fX K) 15 0)), some (.int v1), some (.int v2), some (.int v3), some (.int v4), none] ([]) := by
  intro n
  induction n with
  | zero => intro v1 v2 v3 v4 s0 h; exact absurd h (by simp [wX13_orderByTime_18])
  | succ n ih =>
    intro v1 v2 v3 v4 s0 h
    simp only [wX13_orderByTime_18] at h
    refine g_iload (np := 20) B.1 dX13_orderByTime_18 rfl rfl ?_
    refine g_aload_n (np := 21) B.1 dX13_orderByTime_20 rfl rfl ?_
    refine gf_YModel_9_15 (np := 24) B.1 dX13_orderByTime_21 rfl ?_
    refine g_bipush (np := 26) (v := 12) B.1 dX13_orderByTime_24 (by decide) rfl ?_
    refine g_ialdL (np := 27) B.1 10 8 (by decide) rfl rfl 12 (by decide) (vpl (by decide)) dX13_orderByTime_26 rfl ?_
    refine g_icmp_ge (np := 30) (tgt := 74) B.1 dX13_orderByTime_27 (by decide) rfl (fun q => ?_) (fun q => ?_)
    · replace h := h.1 q
      refine Go.lle [some (.ref (xad (fX K) 15 0)), some (.int v1), some (.int v2), some (.int v3), none, none] (by simp [lle]) ?_
      exact hX74 v1 v2 v3 s0 h
    · replace h := h.2 q
      refine g_aload_n (np := 31) B.1 dX13_orderByTime_30 rfl rfl ?_
      refine g_iload (np := 33) B.1 dX13_orderByTime_31 rfl rfl ?_
      refine gc_YModel_154 (np := 36) B   (oX13_time B.1.tr   v4  _ _ _ h) (Nat.le_of_ble_eq_true rfl) (Nat.le_of_ble_eq_true rfl) (Nat.le_of_ble_eq_true rfl) hc hs dX13_orderByTime_33 rfl (fun r1 s2 h => ?_)
      refine g_aload_n (np := 37) B.1 dX13_orderByTime_36 rfl rfl ?_
      refine g_iload_n (np := 38) B.1 dX13_orderByTime_37 rfl rfl ?_
      refine gc_YModel_154 (np := 41) B   (oX13_time B.1.tr   v2  _ _ _ h) (Nat.le_of_ble_eq_true rfl) (Nat.le_of_ble_eq_true rfl) (Nat.le_of_ble_eq_true rfl) hc hs dX13_orderByTime_38 rfl (fun r3 s4 h => ?_)
      refine g_isub (np := 42) B.1 dX13_orderByTime_41 rfl ?_
      refine g_topi (fun v5_5 ev5_5 => ?_)
      replace h := h v5_5 ev5_5
      refine g_istore (np := 44) (lv' := [some (.ref (xad (fX K) 15 0)), some (.int v1), some (.int v2), some (.int v3), some (.int v4), some (.int v5_5)]) B.1 dX13_orderByTime_42 (by decide) rfl rfl rfl ?_
      refine g_iload_n (np := 45) B.1 dX13_orderByTime_44 rfl rfl ?_
      refine g_iload (np := 47) B.1 dX13_orderByTime_45 rfl rfl ?_
      refine g_if_gt (np := 50) (tgt := 61) B.1 dX13_orderByTime_47 (by decide) rfl (fun q => ?_) (fun q => ?_)
      · replace h := h.1 q
        refine g_iconst (np := 62) (v := 1) B.1 dX13_orderByTime_61 (by decide) rfl ?_
        refine g_goto (tgt := 66) B.1 dX13_orderByTime_62 (by decide) ?_
        refine g_iadd (np := 67) B.1 dX13_orderByTime_66 rfl ?_
        refine g_topi (fun v3_6 ev3_6 => ?_)
        replace h := h v3_6 ev3_6
        refine g_istore_n (np := 68) (lv' := [some (.ref (xad (fX K) 15 0)), some (.int v1), some (.int v2), some (.int v3_6), some (.int v4), some (.int v5_5)]) B.1 dX13_orderByTime_67 (by decide) rfl rfl rfl ?_
        obtain ⟨v4_7, ev4_7⟩ : ∃ y : Int32, y = v4 + 1 := ⟨_, rfl⟩
        replace h := h v4_7 ev4_7
        refine g_iinc (np := 71) (v := v4_7) (lv' := [some (.ref (xad (fX K) 15 0)), some (.int v1), some (.int v2), some (.int v3_6), some (.int v4_7), some (.int v5_5)]) B.1 dX13_orderByTime_68 rfl (by rw [ev4_7]; rfl) (by decide) rfl rfl rfl ?_
        refine g_goto (tgt := 18) B.1 dX13_orderByTime_71 (by decide) ?_
        refine Go.lle [some (.ref (xad (fX K) 15 0)), some (.int v1), some (.int v2), some (.int v3_6), some (.int v4_7), none] (by simp [lle]) ?_
        exact ih v1 v2 v3_6 v4_7 s4 h
      · replace h := h.2 q
        refine g_iload (np := 52) B.1 dX13_orderByTime_50 rfl rfl ?_
        refine g_if_ne (np := 55) (tgt := 65) B.1 dX13_orderByTime_52 (by decide) rfl (fun q => ?_) (fun q => ?_)
        · replace h := h.1 q
          refine g_iconst (np := 66) (v := 0) B.1 dX13_orderByTime_65 (by decide) rfl ?_
          refine g_iadd (np := 67) B.1 dX13_orderByTime_66 rfl ?_
          refine g_topi (fun v3_8 ev3_8 => ?_)
          replace h := h v3_8 ev3_8
          refine g_istore_n (np := 68) (lv' := [some (.ref (xad (fX K) 15 0)), some (.int v1), some (.int v2), some (.int v3_8), some (.int v4), some (.int v5_5)]) B.1 dX13_orderByTime_67 (by decide) rfl rfl rfl ?_
          obtain ⟨v4_9, ev4_9⟩ : ∃ y : Int32, y = v4 + 1 := ⟨_, rfl⟩
          replace h := h v4_9 ev4_9
          refine g_iinc (np := 71) (v := v4_9) (lv' := [some (.ref (xad (fX K) 15 0)), some (.int v1), some (.int v2), some (.int v3_8), some (.int v4_9), some (.int v5_5)]) B.1 dX13_orderByTime_68 rfl (by rw [ev4_9]; rfl) (by decide) rfl rfl rfl ?_
          refine g_goto (tgt := 18) B.1 dX13_orderByTime_71 (by decide) ?_
          refine Go.lle [some (.ref (xad (fX K) 15 0)), some (.int v1), some (.int v2), some (.int v3_8), some (.int v4_9), none] (by simp [lle]) ?_
          exact ih v1 v2 v3_8 v4_9 s4 h
        · replace h := h.2 q
          refine g_iload (np := 57) B.1 dX13_orderByTime_55 rfl rfl ?_
          refine g_iload_n (np := 58) B.1 dX13_orderByTime_57 rfl rfl ?_
          refine g_icmp_ge (np := 61) (tgt := 65) B.1 dX13_orderByTime_58 (by decide) rfl (fun q => ?_) (fun q => ?_)
          · replace h := h.1 q
            refine g_iconst (np := 66) (v := 0) B.1 dX13_orderByTime_65 (by decide) rfl ?_
            refine g_iadd (np := 67) B.1 dX13_orderByTime_66 rfl ?_
            refine g_topi (fun v3_10 ev3_10 => ?_)
            replace h := h v3_10 ev3_10
            refine g_istore_n (np := 68) (lv' := [some (.ref (xad (fX K) 15 0)), some (.int v1), some (.int v2), some (.int v3_10), some (.int v4), some (.int v5_5)]) B.1 dX13_orderByTime_67 (by decide) rfl rfl rfl ?_
            obtain ⟨v4_11, ev4_11⟩ : ∃ y : Int32, y = v4 + 1 := ⟨_, rfl⟩
            replace h := h v4_11 ev4_11
            refine g_iinc (np := 71) (v := v4_11) (lv' := [some (.ref (xad (fX K) 15 0)), some (.int v1), some (.int v2), some (.int v3_10), some (.int v4_11), some (.int v5_5)]) B.1 dX13_orderByTime_68 rfl (by rw [ev4_11]; rfl) (by decide) rfl rfl rfl ?_
            refine g_goto (tgt := 18) B.1 dX13_orderByTime_71 (by decide) ?_
            refine Go.lle [some (.ref (xad (fX K) 15 0)), some (.int v1), some (.int v2), some (.int v3_10), some (.int v4_11), none] (by simp [lle]) ?_
            exact ih v1 v2 v3_10 v4_11 s4 h
          · replace h := h.2 q
            refine g_iconst (np := 62) (v := 1) B.1 dX13_orderByTime_61 (by decide) rfl ?_
            refine g_goto (tgt := 66) B.1 dX13_orderByTime_62 (by decide) ?_
            refine g_iadd (np := 67) B.1 dX13_orderByTime_66 rfl ?_
            refine g_topi (fun v3_12 ev3_12 => ?_)
            replace h := h v3_12 ev3_12
            refine g_istore_n (np := 68) (lv' := [some (.ref (xad (fX K) 15 0)), some (.int v1), some (.int v2), some (.int v3_12), some (.int v4), some (.int v5_5)]) B.1 dX13_orderByTime_67 (by decide) rfl rfl rfl ?_
            obtain ⟨v4_13, ev4_13⟩ : ∃ y : Int32, y = v4 + 1 := ⟨_, rfl⟩
            replace h := h v4_13 ev4_13
            refine g_iinc (np := 71) (v := v4_13) (lv' := [some (.ref (xad (fX K) 15 0)), some (.int v1), some (.int v2), some (.int v3_12), some (.int v4_13), some (.int v5_5)]) B.1 dX13_orderByTime_68 rfl (by rw [ev4_13]; rfl) (by decide) rfl rfl rfl ?_
            refine g_goto (tgt := 18) B.1 dX13_orderByTime_71 (by decide) ?_
            refine Go.lle [some (.ref (xad (fX K) 15 0)), some (.int v1), some (.int v2), some (.int v3_12), some (.int v4_13), none] (by simp [lle]) ?_
            exact ih v1 v2 v3_12 v4_13 s4 h
set_option maxRecDepth 20000 in
set_option maxHeartbeats 4000000 in
theorem oX13_orderByTime_2 {K : Fr} {Q : Int32 → Mem → Prop} {E : String → Mem → Prop} (B : Bd K cX13_orderByTime "YarnMillModel" 6 (some .int) 2 43 0 0 (RI Q) E)    {X79 : Int32 → Mem → Prop} {X97 : Mem → Prop} {cells slots : Nat} (hX79 : ∀ (y2 : Int32) (τ : Mem), X79 y2 τ → Go K cells slots τ 79 [some (.ref (xad (fX K) 15 0)), none, some (.int y2), none, none, none] ([])) (hX97 : ∀ (τ : Mem), X97  τ → Go K cells slots τ 97 [some (.ref (xad (fX K) 15 0)), none, none, none, none, none] ([])) (hc : cells ≤ 0) (hs : slots ≤ 0) : ∀ (n : Nat) (v1 : Int32) (v2 : Int32) (s0 : Mem), wX13_orderByTime_2   Q E X79 X97 n v1 v2 s0 → Go K cells slots s0 2 [some (.ref (xad (fX K) 15 0)), some (.int v1), some (.int v2), none, none, none] ([]) := by
  intro n
  induction n with
  | zero => intro v1 v2 s0 h; exact absurd h (by simp [wX13_orderByTime_2])
  | succ n ih =>
    intro v1 v2 s0 h
    simp only [wX13_orderByTime_2] at h
    refine g_iload_n (np := 3) B.1 dX13_orderByTime_2 rfl rfl ?_
    refine g_aload_n (np := 4) B.1 dX13_orderByTime_3 rfl rfl ?_
    refine gf_YModel_9_15 (np := 7) B.1 dX13_orderByTime_4 rfl ?_
    refine g_bipush (np := 9) (v := 12) B.1 dX13_orderByTime_7 (by decide) rfl ?_
    refine g_ialdL (np := 10) B.1 10 8 (by decide) rfl rfl 12 (by decide) (vpl (by decide)) dX13_orderByTime_9 rfl ?_
    refine g_icmp_ge (np := 13) (tgt := 97) B.1 dX13_orderByTime_10 (by decide) rfl (fun q => ?_) (fun q => ?_)
    · replace h := h.1 q
      refine Go.lle [some (.ref (xad (fX K) 15 0)), none, none, none, none, none] (by simp [lle]) ?_
      exact hX97  s0 h
    · replace h := h.2 q
      refine g_iconst (np := 14) (v := 0) B.1 dX13_orderByTime_13 (by decide) rfl ?_
      refine g_istore_n (np := 15) (lv' := [some (.ref (xad (fX K) 15 0)), some (.int v1), some (.int v2), some (.int 0), none, none]) B.1 dX13_orderByTime_14 (by decide) rfl rfl rfl ?_
      refine g_iconst (np := 16) (v := 0) B.1 dX13_orderByTime_15 (by decide) rfl ?_
      refine g_istore (np := 18) (lv' := [some (.ref (xad (fX K) 15 0)), some (.int v1), some (.int v2), some (.int 0), some (.int 0), none]) B.1 dX13_orderByTime_16 (by decide) rfl rfl rfl ?_
      obtain ⟨m19, h⟩ := h
      refine Go.lle [some (.ref (xad (fX K) 15 0)), some (.int v1), some (.int v2), some (.int 0), some (.int 0), none] (by simp [lle]) ?_
      refine oX13_orderByTime_18 B    (fun x1_14 x2_15 x3_16 s17 h => ?_) hc hs m19 v1 v2 0 0  s0 h
      refine g_iload_n (np := 75) B.1 dX13_orderByTime_74 rfl rfl ?_
      refine g_iload_n (np := 76) B.1 dX13_orderByTime_75 rfl rfl ?_
      refine g_icmp_ne (np := 79) (tgt := 91) B.1 dX13_orderByTime_76 (by decide) rfl (fun q => ?_) (fun q => ?_)
      · replace h := h.1 q
        obtain ⟨v2_18, ev2_18⟩ : ∃ y : Int32, y = x2_15 + 1 := ⟨_, rfl⟩
        replace h := h v2_18 ev2_18
        refine g_iinc (np := 94) (v := v2_18) (lv' := [some (.ref (xad (fX K) 15 0)), some (.int x1_14), some (.int v2_18), some (.int x3_16), none, none]) B.1 dX13_orderByTime_91 rfl (by rw [ev2_18]; rfl) (by decide) rfl rfl rfl ?_
        refine g_goto (tgt := 2) B.1 dX13_orderByTime_94 (by decide) ?_
        refine Go.lle [some (.ref (xad (fX K) 15 0)), some (.int x1_14), some (.int v2_18), none, none, none] (by simp [lle]) ?_
        exact ih x1_14 v2_18 s17 h
      · replace h := h.2 q
        refine Go.lle [some (.ref (xad (fX K) 15 0)), none, some (.int x2_15), none, none, none] (by simp [lle]) ?_
        exact hX79 x2_15 s17 h
set_option maxRecDepth 20000 in
set_option maxHeartbeats 4000000 in
theorem oX13_orderByTime {l : Launch} {x : Ctx} (hl : l.stackTraces = false)   (a1 : Int32)  (s0 : Mem) (Q : Int32 → Mem → Prop) (E : String → Mem → Prop) (h : wX13_orderByTime  a1 s0 Q E) : MetG l x yX13_orderByTime cX13_orderByTime 6 (some .int) 2 43 0 0 [.ref (xad x 15 0), .int a1] s0 (RI Q) E := by
  refine MetG.of hl (by decide) (Nat.le_of_ble_eq_true rfl) [some (.ref (xad x 15 0)), some (.int a1), none, none, none, none] rfl (fun K B hx _ => ?_)
  subst hx
  unfold wX13_orderByTime at h
  refine g_iconst (np := 1) (v := 0) B.1 dX13_orderByTime_0 (by decide) rfl ?_
  refine g_istore_n (np := 2) (lv' := [some (.ref (xad (fX K) 15 0)), some (.int a1), some (.int 0), none, none, none]) B.1 dX13_orderByTime_1 (by decide) rfl rfl rfl ?_
  obtain ⟨m27, h⟩ := h
  refine Go.lle [some (.ref (xad (fX K) 15 0)), some (.int a1), some (.int 0), none, none, none] (by simp [lle]) ?_
  refine oX13_orderByTime_2 B    (fun x2_20 s21 h => ?_) (fun s25 h => ?_) (Nat.le_of_ble_eq_true rfl) (Nat.le_of_ble_eq_true rfl) m27 a1 0  s0 h
  · refine g_aload_n (np := 80) B.1 dX13_orderByTime_79 rfl rfl ?_
    refine g_iconst (np := 81) (v := 0) B.1 dX13_orderByTime_80 (by decide) rfl ?_
    refine gp_YModel_44_15 (np := 84) B.1 dX13_orderByTime_81 rfl ?_
    refine g_mem (fun s22 es22 => ?_)
    replace h := h s22 es22
    refine g_aload_n (np := 85) B.1 dX13_orderByTime_84 rfl rfl ?_
    refine g_iload_n (np := 86) B.1 dX13_orderByTime_85 rfl rfl ?_
    refine g_iconst (np := 87) (v := 0) B.1 dX13_orderByTime_86 (by decide) rfl ?_
    refine gc_YModel_58 (np := 90) B   (oX13_ofOrder B.1.tr   x2_20 0  _ _ _ h) (Nat.le_of_ble_eq_true rfl) (Nat.le_of_ble_eq_true rfl) (Nat.le_of_ble_eq_true rfl) (Nat.le_of_ble_eq_true rfl) (Nat.le_of_ble_eq_true rfl) dX13_orderByTime_87 rfl (fun r23 s24 h => ?_)
    exact g_iret B (ty := .int) rfl rfl (Nat.le_of_ble_eq_true rfl) (Nat.le_of_ble_eq_true rfl) dX13_orderByTime_90 ⟨_, rfl, h⟩
  · refine g_aload_n (np := 98) B.1 dX13_orderByTime_97 rfl rfl ?_
    refine g_iconst (np := 99) (v := 1) B.1 dX13_orderByTime_98 (by decide) rfl ?_
    refine gp_YModel_44_15 (np := 102) B.1 dX13_orderByTime_99 rfl ?_
    refine g_mem (fun s26 es26 => ?_)
    replace h := h s26 es26
    refine g_iconst (np := 103) (v := 0) B.1 dX13_orderByTime_102 (by decide) rfl ?_
    exact g_iret B (ty := .int) rfl rfl (Nat.le_of_ble_eq_true rfl) (Nat.le_of_ble_eq_true rfl) dX13_orderByTime_103 ⟨_, rfl, h⟩
def wX13_gives_28   (Q : Mem → Prop) (E : String → Mem → Prop) (W : Int32 → Int32 → Mem → (Mem → Prop) → Prop) (X99 : Mem → Prop) : Nat → Int32 → Int32 → Int32 → Mem → Prop
  | 0, _, _, _, _ => False
  | n28 + 1, v1, v2, v3, s0 => ((rd s0 10 8 3 ≤ v3 → X99  s0) ∧ (¬ rd s0 10 8 3 ≤ v3 → vp_in v3 (iaLen 12) ∧ wX13_time  v1 s0 (fun (r1 : Int32) (s2 : Mem) => vp_in v3 (iaLen 12) ∧ ∀ s3 : Mem, s3 = wr s2 10 12 v3.toNatClampNeg ((rd s0 10 12 v3.toNatClampNeg) + r1) → vp_in v3 (iaLen 12) ∧ ((rd s3 10 12 v3.toNatClampNeg ≤ v2 → W (v1 + 1) v2 s3 (fun (s5 : Mem) => vp_in v3 (iaLen 12) ∧ wX13_time  v1 s5 (fun (r6 : Int32) (s7 : Mem) => vp_in v3 (iaLen 12) ∧ ∀ s8 : Mem, s8 = wr s7 10 12 v3.toNatClampNeg ((rd s5 10 12 v3.toNatClampNeg) - r6) → ∀ v3_9 : Int32, v3_9 = (v3 + 1) → wX13_gives_28   Q E W X99 n28 v1 v2 v3_9 s8) E)) ∧ (¬ rd s3 10 12 v3.toNatClampNeg ≤ v2 → vp_in v3 (iaLen 12) ∧ W (v1 + 1) (rd s3 10 12 v3.toNatClampNeg) s3 (fun (s11 : Mem) => vp_in v3 (iaLen 12) ∧ wX13_time  v1 s11 (fun (r12 : Int32) (s13 : Mem) => vp_in v3 (iaLen 12) ∧ ∀ s14 : Mem, s14 = wr s13 10 12 v3.toNatClampNeg ((rd s11 10 12 v3.toNatClampNeg) - r12) → ∀ v3_15 : Int32, v3_15 = (v3 + 1) → wX13_gives_28   Q E W X99 n28 v1 v2 v3_15 s14) E)))) E))
def wX13_gives : Nat → Int32 → Int32 → Mem → (Mem → Prop) → (String → Mem → Prop) → Prop
  | 0, _, _, _, _, _ => False
  | d + 1, a1, a2, s0, Q, E => ((a2 < rd s0 15 0 11 → ((¬ a1 = rd s0 10 8 12 → ∃ m17 : Nat, wX13_gives_28   Q E (fun a1_ a2_ τ Q2 => wX13_gives d a1_ a2_ τ Q2 E) (fun (s16 : Mem) => Q s16) m17 a1 a2 0  s0) ∧ (a1 = rd s0 10 8 12 → ∀ s18 : Mem, s18 = wr s0 15 0 11 a2 → Q s18))) ∧ (¬ a2 < rd s0 15 0 11 → Q s0))
set_option maxRecDepth 20000 in
set_option maxHeartbeats 4000000 in
theorem oX13_gives_28 {d : Nat} {K : Fr} {Q : Mem → Prop} {E : String → Mem → Prop} (B : Bd K cX13_gives "YarnMillModel" 4 none (2 + (d + 1)) (43 + (d + 1) * 23) 0 0 (RV Q) E)    {W : Int32 → Int32 → Mem → (Mem → Prop) → Prop} (hW : ∀ (a1 : Int32) (a2 : Int32) (τ : Mem) (Q2 : Mem → Prop), W a1 a2 τ Q2 → MetG (fL K) (fX K) yX13_gives cX13_gives 4 none (2 + d) (43 + d * 23) 0 0 [.ref (xad (fX K) 15 0), .int a1, .int a2] τ (RV Q2) E) {X99 : Mem → Prop} {cells slots : Nat} (hX99 : ∀ (τ : Mem), X99  τ → Go K cells slots τ 99 [none, none, none, none] ([])) (hc : cells ≤ 0) (hs : slots ≤ 0) : ∀ (n : Nat) (v1 : Int32) (v2 : Int32) (v3 : Int32) (s0 : Mem), wX13_gives_28   Q E W X99 n v1 v2 v3 s0 → Go K cells slots s0 28 [some (.ref (xad (fX K) 15 0)), some (.int v1), some (.int v2), some (.int v3)] ([]) := by
  intro n
  induction n with
  | zero => intro v1 v2 v3 s0 h; exact absurd h (by simp [wX13_gives_28])
  | succ n ih =>
    intro v1 v2 v3 s0 h
    simp only [wX13_gives_28] at h
    refine g_iload_n (np := 29) B.1 dX13_gives_28 rfl rfl ?_
    refine g_aload_n (np := 30) B.1 dX13_gives_29 rfl rfl ?_
    refine gf_YModel_9_15 (np := 33) B.1 dX13_gives_30 rfl ?_
    refine g_iconst (np := 34) (v := 3) B.1 dX13_gives_33 (by decide) rfl ?_
    refine g_ialdL (np := 35) B.1 10 8 (by decide) rfl rfl 3 (by decide) (vpl (by decide)) dX13_gives_34 rfl ?_
    refine g_icmp_ge (np := 38) (tgt := 99) B.1 dX13_gives_35 (by decide) rfl (fun q => ?_) (fun q => ?_)
    · replace h := h.1 q
      refine Go.lle [none, none, none, none] (by simp [lle]) ?_
      exact hX99  s0 h
    · replace h := h.2 q
      refine g_aload_n (np := 39) B.1 dX13_gives_38 rfl rfl ?_
      refine gf_YModel_22_15 (np := 42) B.1 dX13_gives_39 rfl ?_
      refine g_iload_n (np := 43) B.1 dX13_gives_42 rfl rfl ?_
      refine g_dup2 (np := 44) B.1 dX13_gives_43 rfl rfl rfl ?_
      refine g_iald (np := 45) B.1 10 12 (by decide) rfl rfl h.1 dX13_gives_44 rfl ?_
      replace h := h.2
      refine g_aload_n (np := 46) B.1 dX13_gives_45 rfl rfl ?_
      refine g_iload_n (np := 47) B.1 dX13_gives_46 rfl rfl ?_
      refine gc_YModel_154 (np := 50) B   (oX13_time B.1.tr   v1  _ _ _ h) (by omega) (by omega) (Nat.le_of_ble_eq_true rfl) hc hs dX13_gives_47 rfl (fun r1 s2 h => ?_)
      refine g_iadd (np := 51) B.1 dX13_gives_50 rfl ?_
      refine g_iast (np := 52) B.1 10 12 (by decide) rfl (fun _ _ => rfl) h.1 dX13_gives_51 rfl ?_
      replace h := h.2
      refine g_mem (fun s3 es3 => ?_)
      replace h := h s3 es3
      refine g_aload_n (np := 53) B.1 dX13_gives_52 rfl rfl ?_
      refine g_iload_n (np := 54) B.1 dX13_gives_53 rfl rfl ?_
      refine g_iconst (np := 55) (v := 1) B.1 dX13_gives_54 (by decide) rfl ?_
      refine g_iadd (np := 56) B.1 dX13_gives_55 rfl ?_
      refine g_aload_n (np := 57) B.1 dX13_gives_56 rfl rfl ?_
      refine gf_YModel_22_15 (np := 60) B.1 dX13_gives_57 rfl ?_
      refine g_iload_n (np := 61) B.1 dX13_gives_60 rfl rfl ?_
      refine g_iald (np := 62) B.1 10 12 (by decide) rfl rfl h.1 dX13_gives_61 rfl ?_
      replace h := h.2
      refine g_iload_n (np := 63) B.1 dX13_gives_62 rfl rfl ?_
      refine g_icmp_le (np := 66) (tgt := 75) B.1 dX13_gives_63 (by decide) rfl (fun q => ?_) (fun q => ?_)
      · replace h := h.1 q
        refine g_iload_n (np := 76) B.1 dX13_gives_75 rfl rfl ?_
        refine gc_YModel_163 (np := 79) B   (hW (v1 + 1) v2 _ _ h) (by omega) (by omega) (Nat.le_of_ble_eq_true rfl) hc hs dX13_gives_76 rfl (fun s5 h => ?_)
        refine g_aload_n (np := 80) B.1 dX13_gives_79 rfl rfl ?_
        refine gf_YModel_22_15 (np := 83) B.1 dX13_gives_80 rfl ?_
        refine g_iload_n (np := 84) B.1 dX13_gives_83 rfl rfl ?_
        refine g_dup2 (np := 85) B.1 dX13_gives_84 rfl rfl rfl ?_
        refine g_iald (np := 86) B.1 10 12 (by decide) rfl rfl h.1 dX13_gives_85 rfl ?_
        replace h := h.2
        refine g_aload_n (np := 87) B.1 dX13_gives_86 rfl rfl ?_
        refine g_iload_n (np := 88) B.1 dX13_gives_87 rfl rfl ?_
        refine gc_YModel_154 (np := 91) B   (oX13_time B.1.tr   v1  _ _ _ h) (by omega) (by omega) (Nat.le_of_ble_eq_true rfl) hc hs dX13_gives_88 rfl (fun r6 s7 h => ?_)
        refine g_isub (np := 92) B.1 dX13_gives_91 rfl ?_
        refine g_iast (np := 93) B.1 10 12 (by decide) rfl (fun _ _ => rfl) h.1 dX13_gives_92 rfl ?_
        replace h := h.2
        refine g_mem (fun s8 es8 => ?_)
        replace h := h s8 es8
        obtain ⟨v3_9, ev3_9⟩ : ∃ y : Int32, y = v3 + 1 := ⟨_, rfl⟩
        replace h := h v3_9 ev3_9
        refine g_iinc (np := 96) (v := v3_9) (lv' := [some (.ref (xad (fX K) 15 0)), some (.int v1), some (.int v2), some (.int v3_9)]) B.1 dX13_gives_93 rfl (by rw [ev3_9]; rfl) (by decide) rfl rfl rfl ?_
        refine g_goto (tgt := 28) B.1 dX13_gives_96 (by decide) ?_
        refine Go.lle [some (.ref (xad (fX K) 15 0)), some (.int v1), some (.int v2), some (.int v3_9)] (by simp [lle]) ?_
        exact ih v1 v2 v3_9 s8 h
      · replace h := h.2 q
        refine g_aload_n (np := 67) B.1 dX13_gives_66 rfl rfl ?_
        refine gf_YModel_22_15 (np := 70) B.1 dX13_gives_67 rfl ?_
        refine g_iload_n (np := 71) B.1 dX13_gives_70 rfl rfl ?_
        refine g_iald (np := 72) B.1 10 12 (by decide) rfl rfl h.1 dX13_gives_71 rfl ?_
        replace h := h.2
        refine g_goto (tgt := 76) B.1 dX13_gives_72 (by decide) ?_
        refine gc_YModel_163 (np := 79) B   (hW (v1 + 1) (rd s3 10 12 v3.toNatClampNeg) _ _ h) (by omega) (by omega) (Nat.le_of_ble_eq_true rfl) hc hs dX13_gives_76 rfl (fun s11 h => ?_)
        refine g_aload_n (np := 80) B.1 dX13_gives_79 rfl rfl ?_
        refine gf_YModel_22_15 (np := 83) B.1 dX13_gives_80 rfl ?_
        refine g_iload_n (np := 84) B.1 dX13_gives_83 rfl rfl ?_
        refine g_dup2 (np := 85) B.1 dX13_gives_84 rfl rfl rfl ?_
        refine g_iald (np := 86) B.1 10 12 (by decide) rfl rfl h.1 dX13_gives_85 rfl ?_
        replace h := h.2
        refine g_aload_n (np := 87) B.1 dX13_gives_86 rfl rfl ?_
        refine g_iload_n (np := 88) B.1 dX13_gives_87 rfl rfl ?_
        refine gc_YModel_154 (np := 91) B   (oX13_time B.1.tr   v1  _ _ _ h) (by omega) (by omega) (Nat.le_of_ble_eq_true rfl) hc hs dX13_gives_88 rfl (fun r12 s13 h => ?_)
        refine g_isub (np := 92) B.1 dX13_gives_91 rfl ?_
        refine g_iast (np := 93) B.1 10 12 (by decide) rfl (fun _ _ => rfl) h.1 dX13_gives_92 rfl ?_
        replace h := h.2
        refine g_mem (fun s14 es14 => ?_)
        replace h := h s14 es14
        obtain ⟨v3_15, ev3_15⟩ : ∃ y : Int32, y = v3 + 1 := ⟨_, rfl⟩
        replace h := h v3_15 ev3_15
        refine g_iinc (np := 96) (v := v3_15) (lv' := [some (.ref (xad (fX K) 15 0)), some (.int v1), some (.int v2), some (.int v3_15)]) B.1 dX13_gives_93 rfl (by rw [ev3_15]; rfl) (by decide) rfl rfl rfl ?_
        refine g_goto (tgt := 28) B.1 dX13_gives_96 (by decide) ?_
        refine Go.lle [some (.ref (xad (fX K) 15 0)), some (.int v1), some (.int v2), some (.int v3_15)] (by simp [lle]) ?_
        exact ih v1 v2 v3_15 s14 h
set_option maxRecDepth 20000 in
set_option maxHeartbeats 4000000 in
theorem oX13_gives {l : Launch} {x : Ctx} (hl : l.stackTraces = false) : ∀ (d : Nat) (a1 : Int32) (a2 : Int32) (s0 : Mem) (Q : Mem → Prop) (E : String → Mem → Prop), wX13_gives d a1 a2 s0 Q E → MetG l x yX13_gives cX13_gives 4 none (2 + d) (43 + d * 23) 0 0 [.ref (xad x 15 0), .int a1, .int a2] s0 (RV Q) E := by
  intro d
  induction d with
  | zero => intro a1 a2 s0 Q E h; exact absurd h (by simp [wX13_gives])
  | succ d ih =>
    intro a1 a2 s0 Q E h
    simp only [wX13_gives] at h
    refine MetG.of hl (by decide) (Nat.le_of_ble_eq_true rfl) [some (.ref (xad x 15 0)), some (.int a1), some (.int a2), none] rfl (fun K B hx hl2 => ?_)
    subst hx
    subst hl2
    refine g_iload_n (np := 1) B.1 dX13_gives_0 rfl rfl ?_
    refine g_aload_n (np := 2) B.1 dX13_gives_1 rfl rfl ?_
    refine gf_YModel_160_15 (np := 5) B.1 dX13_gives_2 rfl ?_
    refine g_icmp_lt (np := 8) (tgt := 9) B.1 dX13_gives_5 (by decide) rfl (fun q => ?_) (fun q => ?_)
    · replace h := h.1 q
      refine g_iload_n (np := 10) B.1 dX13_gives_9 rfl rfl ?_
      refine g_aload_n (np := 11) B.1 dX13_gives_10 rfl rfl ?_
      refine gf_YModel_9_15 (np := 14) B.1 dX13_gives_11 rfl ?_
      refine g_bipush (np := 16) (v := 12) B.1 dX13_gives_14 (by decide) rfl ?_
      refine g_ialdL (np := 17) B.1 10 8 (by decide) rfl rfl 12 (by decide) (vpl (by decide)) dX13_gives_16 rfl ?_
      refine g_icmp_ne (np := 20) (tgt := 26) B.1 dX13_gives_17 (by decide) rfl (fun q => ?_) (fun q => ?_)
      · replace h := h.1 q
        refine g_iconst (np := 27) (v := 0) B.1 dX13_gives_26 (by decide) rfl ?_
        refine g_istore_n (np := 28) (lv' := [some (.ref (xad (fX K) 15 0)), some (.int a1), some (.int a2), some (.int 0)]) B.1 dX13_gives_27 (by decide) rfl rfl rfl ?_
        obtain ⟨m17, h⟩ := h
        refine Go.lle [some (.ref (xad (fX K) 15 0)), some (.int a1), some (.int a2), some (.int 0)] (by simp [lle]) ?_
        refine oX13_gives_28 B    (fun a1_ a2_ τ Q2 h => ih a1_ a2_ τ Q2 E h) (fun s16 h => ?_) (Nat.le_of_ble_eq_true rfl) (Nat.le_of_ble_eq_true rfl) m17 a1 a2 0  s0 h
        exact g_vret B rfl (Nat.le_of_ble_eq_true rfl) (Nat.le_of_ble_eq_true rfl) dX13_gives_99 ⟨rfl, h⟩
      · replace h := h.2 q
        refine g_aload_n (np := 21) B.1 dX13_gives_20 rfl rfl ?_
        refine g_iload_n (np := 22) B.1 dX13_gives_21 rfl rfl ?_
        refine gp_YModel_160_15 (np := 25) B.1 dX13_gives_22 rfl ?_
        refine g_mem (fun s18 es18 => ?_)
        replace h := h s18 es18
        exact g_vret B rfl (Nat.le_of_ble_eq_true rfl) (Nat.le_of_ble_eq_true rfl) dX13_gives_25 ⟨rfl, h⟩
    · replace h := h.2 q
      exact g_vret B rfl (Nat.le_of_ble_eq_true rfl) (Nat.le_of_ble_eq_true rfl) dX13_gives_8 ⟨rfl, h⟩
