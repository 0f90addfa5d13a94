def wX2_addUpSets_52   (Q : Mem → Prop) (E : String → Mem → Prop)  (X124 : Int32 → Mem → Prop) : Nat → Int32 → Int32 → Int32 → Int32 → Int32 → Int32 → Mem → Prop
  | 0, _, _, _, _, _, _, _ => False
  | n52 + 1, v2, v3, v4, v5, v6, v7, s0 => ((v6 ≤ v7 → X124 v2 s0) ∧ (¬ v6 ≤ v7 → vp_in v7 (iaLen 0) ∧ vp_in (v6 + v7) (iaLen 0) ∧ ∀ s11 : Mem, s11 = wr s0 10 0 (v6 + v7).toNatClampNeg ((rd s0 10 0 v7.toNatClampNeg) + v3) → vp_in v7 (iaLen 1) ∧ vp_in (v6 + v7) (iaLen 1) ∧ ∀ s12 : Mem, s12 = wr s11 10 1 (v6 + v7).toNatClampNeg ((rd s11 10 1 v7.toNatClampNeg) + v4) → vp_in v7 (iaLen 2) ∧ vp_in (v6 + v7) (iaLen 2) ∧ ∀ s13 : Mem, s13 = wr s12 10 2 (v6 + v7).toNatClampNeg ((rd s12 10 2 v7.toNatClampNeg) + v5) → ∀ v7_14 : Int32, v7_14 = (v7 + 1) → wX2_addUpSets_52   Q E X124 n52 v2 v3 v4 v5 v6 v7_14 s13))
def wX2_addUpSets_2   (Q : Mem → Prop) (E : String → Mem → Prop)  (X130 : Mem → Prop) : Nat → Int32 → Mem → Prop
  | 0, _, _ => False
  | n2 + 1, v2, s0 => wX7_size 0  s0 (fun (r1 : Int32) (s2 : Mem) => ((r1 ≤ v2 → X130  s2) ∧ (¬ r1 ≤ v2 → wX7_get 1 v2 s2 (fun (r3 : Int32) (s4 : Mem) => wX7_get 2 v2 s4 (fun (r5 : Int32) (s6 : Mem) => ∀ v4_7 : Int32, v4_7 = (r3 * r5) → wX7_get 4 v2 s6 (fun (r8 : Int32) (s9 : Mem) => ∀ v6_10 : Int32, v6_10 = (1 <<< (v2 &&& 31)) → ∃ m18 : Nat, wX2_addUpSets_52   Q E (fun (x2_15 : Int32) (s16 : Mem) => ∀ v2_17 : Int32, v2_17 = (x2_15 + 1) → wX2_addUpSets_2   Q E X130 n2 v2_17 s16) m18 v2 r3 v4_7 r8 v6_10 0  s9) E) E) E))) E
def wX2_addUpSets   (s0 : Mem) (Q : Mem → Prop) (E : String → Mem → Prop) : Prop := ∃ m20 : Nat, wX2_addUpSets_2   Q E (fun (s19 : Mem) => Q s19) m20 0  s0
set_option maxRecDepth 20000 in
set_option maxHeartbeats 4000000 in
theorem oX2_addUpSets_52 {K : Fr} {Q : Mem → Prop} {E : String → Mem → Prop} (B : Bd K cX2_addUpSets "YarnMill$BlendFinder" 8 none 1 21 0 0 (RV Q) E)    {X124 : Int32 → Mem → Prop} {cells slots : Nat} (hX124 : ∀ (y2 : Int32) (τ : Mem), X124 y2 τ → Go K cells slots τ 124 [some (.ref (xad (fX K) 7 0)), some (.ref (xad (fX K) 2 0)), some (.int y2), none, none, none, none, none] ([])) (hc : cells ≤ 0) (hs : slots ≤ 0) : ∀ (n : Nat) (v2 : Int32) (v3 : Int32) (v4 : Int32) (v5 : Int32) (v6 : Int32) (v7 : Int32) (s0 : Mem), wX2_addUpSets_52   Q E X124 n v2 v3 v4 v5 v6 v7 s0 → Go K cells slots s0 52 [some (.ref (xad (fX K) 7 0)), some (.ref (xad (fX K) 2 0)), some (.int v2), some (.int v3), some (.int v4), some (.int v5), some (.int v6), some (.int v7)] ([]) := by
  intro n
  induction n with
  | zero => intro v2 v3 v4 v5 v6 v7 s0 h; exact absurd h (by simp [wX2_addUpSets_52])
  | succ n ih =>
    intro v2 v3 v4 v5 v6 v7 s0 h
    simp only [wX2_addUpSets_52] at h
    refine g_iload (np := 54) B.1 dX2_addUpSets_52 rfl rfl ?_
    refine g_iload (np := 56) B.1 dX2_addUpSets_54 rfl rfl ?_
    refine g_icmp_ge (np := 59) (tgt := 124) B.1 dX2_addUpSets_56 (by decide) rfl (fun q => ?_) (fun q => ?_)
    · replace h := h.1 q
      refine Go.lle [some (.ref (xad (fX K) 7 0)), some (.ref (xad (fX K) 2 0)), some (.int v2), none, none, none, none, none] (by simp [lle]) ?_
      exact hX124 v2 s0 h
    · replace h := h.2 q
      refine g_aload_n (np := 60) B.1 dX2_addUpSets_59 rfl rfl ?_
      refine gf_YBlendFinder_9_7 (np := 63) B.1 dX2_addUpSets_60 rfl ?_
      refine g_iload (np := 65) B.1 dX2_addUpSets_63 rfl rfl ?_
      refine g_iload (np := 67) B.1 dX2_addUpSets_65 rfl rfl ?_
      refine g_iadd (np := 68) B.1 dX2_addUpSets_67 rfl ?_
      refine g_aload_n (np := 69) B.1 dX2_addUpSets_68 rfl rfl ?_
      refine gf_YBlendFinder_9_7 (np := 72) B.1 dX2_addUpSets_69 rfl ?_
      refine g_iload (np := 74) B.1 dX2_addUpSets_72 rfl rfl ?_
      refine g_iald (np := 75) B.1 10 0 (by decide : (0 : Nat) < 8) rfl rfl h.1 dX2_addUpSets_74 rfl ?_
      replace h := h.2
      refine g_iload_n (np := 76) B.1 dX2_addUpSets_75 rfl rfl ?_
      refine g_iadd (np := 77) B.1 dX2_addUpSets_76 rfl ?_
      refine g_iast (np := 78) B.1 10 0 (by decide : (0 : Nat) < 8) rfl (fun _ _ => rfl) h.1 dX2_addUpSets_77 rfl ?_
      replace h := h.2
      refine g_mem (fun s11 es11 => ?_)
      replace h := h s11 es11
      refine g_aload_n (np := 79) B.1 dX2_addUpSets_78 rfl rfl ?_
      refine gf_YBlendFinder_15_7 (np := 82) B.1 dX2_addUpSets_79 rfl ?_
      refine g_iload (np := 84) B.1 dX2_addUpSets_82 rfl rfl ?_
      refine g_iload (np := 86) B.1 dX2_addUpSets_84 rfl rfl ?_
      refine g_iadd (np := 87) B.1 dX2_addUpSets_86 rfl ?_
      refine g_aload_n (np := 88) B.1 dX2_addUpSets_87 rfl rfl ?_
      refine gf_YBlendFinder_15_7 (np := 91) B.1 dX2_addUpSets_88 rfl ?_
      refine g_iload (np := 93) B.1 dX2_addUpSets_91 rfl rfl ?_
      refine g_iald (np := 94) B.1 10 1 (by decide : (1 : Nat) < 8) rfl rfl h.1 dX2_addUpSets_93 rfl ?_
      replace h := h.2
      refine g_iload (np := 96) B.1 dX2_addUpSets_94 rfl rfl ?_
      refine g_iadd (np := 97) B.1 dX2_addUpSets_96 rfl ?_
      refine g_iast (np := 98) B.1 10 1 (by decide : (1 : Nat) < 8) rfl (fun _ _ => rfl) h.1 dX2_addUpSets_97 rfl ?_
      replace h := h.2
      refine g_mem (fun s12 es12 => ?_)
      replace h := h s12 es12
      refine g_aload_n (np := 99) B.1 dX2_addUpSets_98 rfl rfl ?_
      refine gf_YBlendFinder_18_7 (np := 102) B.1 dX2_addUpSets_99 rfl ?_
      refine g_iload (np := 104) B.1 dX2_addUpSets_102 rfl rfl ?_
      refine g_iload (np := 106) B.1 dX2_addUpSets_104 rfl rfl ?_
      refine g_iadd (np := 107) B.1 dX2_addUpSets_106 rfl ?_
      refine g_aload_n (np := 108) B.1 dX2_addUpSets_107 rfl rfl ?_
      refine gf_YBlendFinder_18_7 (np := 111) B.1 dX2_addUpSets_108 rfl ?_
      refine g_iload (np := 113) B.1 dX2_addUpSets_111 rfl rfl ?_
      refine g_iald (np := 114) B.1 10 2 (by decide : (2 : Nat) < 8) rfl rfl h.1 dX2_addUpSets_113 rfl ?_
      replace h := h.2
      refine g_iload (np := 116) B.1 dX2_addUpSets_114 rfl rfl ?_
      refine g_iadd (np := 117) B.1 dX2_addUpSets_116 rfl ?_
      refine g_iast (np := 118) B.1 10 2 (by decide : (2 : Nat) < 8) rfl (fun _ _ => rfl) h.1 dX2_addUpSets_117 rfl ?_
      replace h := h.2
      refine g_mem (fun s13 es13 => ?_)
      replace h := h s13 es13
      obtain ⟨v7_14, ev7_14⟩ : ∃ y : Int32, y = v7 + 1 := ⟨_, rfl⟩
      replace h := h v7_14 ev7_14
      refine g_iinc (np := 121) (v := v7_14) (lv' := [some (.ref (xad (fX K) 7 0)), some (.ref (xad (fX K) 2 0)), some (.int v2), some (.int v3), some (.int v4), some (.int v5), some (.int v6), some (.int v7_14)]) B.1 dX2_addUpSets_118 rfl (by rw [ev7_14]; rfl) (by decide) rfl rfl rfl ?_
      refine g_goto (tgt := 52) B.1 dX2_addUpSets_121 (by decide) ?_
      refine Go.lle [some (.ref (xad (fX K) 7 0)), some (.ref (xad (fX K) 2 0)), some (.int v2), some (.int v3), some (.int v4), some (.int v5), some (.int v6), some (.int v7_14)] (by simp [lle]) ?_
      exact ih v2 v3 v4 v5 v6 v7_14 s13 h
set_option maxRecDepth 20000 in
set_option maxHeartbeats 4000000 in
theorem oX2_addUpSets_2 {K : Fr} {Q : Mem → Prop} {E : String → Mem → Prop} (B : Bd K cX2_addUpSets "YarnMill$BlendFinder" 8 none 1 21 0 0 (RV Q) E)    {X130 : Mem → Prop} {cells slots : Nat} (hX130 : ∀ (τ : Mem), X130  τ → Go K cells slots τ 130 [none, none, none, none, none, none, none, none] ([])) (hc : cells ≤ 0) (hs : slots ≤ 0) : ∀ (n : Nat) (v2 : Int32) (s0 : Mem), wX2_addUpSets_2   Q E X130 n v2 s0 → Go K cells slots s0 2 [some (.ref (xad (fX K) 7 0)), some (.ref (xad (fX K) 2 0)), some (.int v2), none, none, none, none, none] ([]) := by
  intro n
  induction n with
  | zero => intro v2 s0 h; exact absurd h (by simp [wX2_addUpSets_2])
  | succ n ih =>
    intro v2 s0 h
    simp only [wX2_addUpSets_2] at h
    refine g_iload_n (np := 3) B.1 dX2_addUpSets_2 rfl rfl ?_
    refine g_aload_n (np := 4) B.1 dX2_addUpSets_3 rfl rfl ?_
    refine gf_YBlendFinder_25_2 (np := 7) B.1 0 (by decide : (0 : Nat) < 11) dX2_addUpSets_4 rfl ?_
    refine gc_YBlendFinder_31 (np := 10) B 0 (by decide : (0 : Nat) < 112) (oX7_size B.1.tr 0 (by decide : (0 : Nat) < 112)   _ _ _ h) (Nat.le_of_ble_eq_true rfl) (Nat.le_of_ble_eq_true rfl) (Nat.le_of_ble_eq_true rfl) hc hs dX2_addUpSets_7 rfl (fun r1 s2 h => ?_)
    refine g_icmp_ge (np := 13) (tgt := 130) B.1 dX2_addUpSets_10 (by decide) rfl (fun q => ?_) (fun q => ?_)
    · replace h := h.1 q
      refine Go.lle [none, none, none, none, none, none, none, none] (by simp [lle]) ?_
      exact hX130  s2 h
    · replace h := h.2 q
      refine g_aload_n (np := 14) B.1 dX2_addUpSets_13 rfl rfl ?_
      refine gf_YBlendFinder_45_2 (np := 17) B.1 0 (by decide : (0 : Nat) < 11) dX2_addUpSets_14 rfl ?_
      refine g_iload_n (np := 18) B.1 dX2_addUpSets_17 rfl rfl ?_
      refine gc_YBlendFinder_47 (np := 21) B 1 (by decide : (1 : Nat) < 112) (oX7_get B.1.tr 1 (by decide : (1 : Nat) < 112) v2  _ _ _ h) (Nat.le_of_ble_eq_true rfl) (Nat.le_of_ble_eq_true rfl) (Nat.le_of_ble_eq_true rfl) hc hs dX2_addUpSets_18 rfl (fun r3 s4 h => ?_)
      refine g_istore_n (np := 22) (lv' := [some (.ref (xad (fX K) 7 0)), some (.ref (xad (fX K) 2 0)), some (.int v2), some (.int r3), none, none, none, none]) B.1 dX2_addUpSets_21 (by decide) rfl rfl rfl ?_
      refine g_iload_n (np := 23) B.1 dX2_addUpSets_22 rfl rfl ?_
      refine g_aload_n (np := 24) B.1 dX2_addUpSets_23 rfl rfl ?_
      refine gf_YBlendFinder_51_2 (np := 27) B.1 0 (by decide : (0 : Nat) < 11) dX2_addUpSets_24 rfl ?_
      refine g_iload_n (np := 28) B.1 dX2_addUpSets_27 rfl rfl ?_
      refine gc_YBlendFinder_47 (np := 31) B 2 (by decide : (2 : Nat) < 112) (oX7_get B.1.tr 2 (by decide : (2 : Nat) < 112) v2  _ _ _ h) (Nat.le_of_ble_eq_true rfl) (Nat.le_of_ble_eq_true rfl) (Nat.le_of_ble_eq_true rfl) hc hs dX2_addUpSets_28 rfl (fun r5 s6 h => ?_)
      refine g_imul (np := 32) B.1 dX2_addUpSets_31 rfl ?_
      refine g_topi (fun v4_7 ev4_7 => ?_)
      replace h := h v4_7 ev4_7
      refine g_istore (np := 34) (lv' := [some (.ref (xad (fX K) 7 0)), some (.ref (xad (fX K) 2 0)), some (.int v2), some (.int r3), some (.int v4_7), none, none, none]) B.1 dX2_addUpSets_32 (by decide) rfl rfl rfl ?_
      refine g_aload_n (np := 35) B.1 dX2_addUpSets_34 rfl rfl ?_
      refine gf_YBlendFinder_54_2 (np := 38) B.1 0 (by decide : (0 : Nat) < 11) dX2_addUpSets_35 rfl ?_
      refine g_iload_n (np := 39) B.1 dX2_addUpSets_38 rfl rfl ?_
      refine gc_YBlendFinder_47 (np := 42) B 4 (by decide : (4 : Nat) < 112) (oX7_get B.1.tr 4 (by decide : (4 : Nat) < 112) v2  _ _ _ h) (Nat.le_of_ble_eq_true rfl) (Nat.le_of_ble_eq_true rfl) (Nat.le_of_ble_eq_true rfl) hc hs dX2_addUpSets_39 rfl (fun r8 s9 h => ?_)
      refine g_istore (np := 44) (lv' := [some (.ref (xad (fX K) 7 0)), some (.ref (xad (fX K) 2 0)), some (.int v2), some (.int r3), some (.int v4_7), some (.int r8), none, none]) B.1 dX2_addUpSets_42 (by decide) rfl rfl rfl ?_
      refine g_iconst (np := 45) (v := 1) B.1 dX2_addUpSets_44 (by decide) rfl ?_
      refine g_iload_n (np := 46) B.1 dX2_addUpSets_45 rfl rfl ?_
      refine g_ishl (np := 47) B.1 dX2_addUpSets_46 rfl ?_
      refine g_topi (fun v6_10 ev6_10 => ?_)
      replace h := h v6_10 ev6_10
      refine g_istore (np := 49) (lv' := [some (.ref (xad (fX K) 7 0)), some (.ref (xad (fX K) 2 0)), some (.int v2), some (.int r3), some (.int v4_7), some (.int r8), some (.int v6_10), none]) B.1 dX2_addUpSets_47 (by decide) rfl rfl rfl ?_
      refine g_iconst (np := 50) (v := 0) B.1 dX2_addUpSets_49 (by decide) rfl ?_
      refine g_istore (np := 52) (lv' := [some (.ref (xad (fX K) 7 0)), some (.ref (xad (fX K) 2 0)), some (.int v2), some (.int r3), some (.int v4_7), some (.int r8), some (.int v6_10), some (.int 0)]) B.1 dX2_addUpSets_50 (by decide) rfl rfl rfl ?_
      obtain ⟨m18, h⟩ := h
      refine Go.lle [some (.ref (xad (fX K) 7 0)), some (.ref (xad (fX K) 2 0)), some (.int v2), some (.int r3), some (.int v4_7), some (.int r8), some (.int v6_10), some (.int 0)] (by simp [lle]) ?_
      refine oX2_addUpSets_52 B    (fun x2_15 s16 h => ?_) hc hs m18 v2 r3 v4_7 r8 v6_10 0  s9 h
      obtain ⟨v2_17, ev2_17⟩ : ∃ y : Int32, y = x2_15 + 1 := ⟨_, rfl⟩
      replace h := h v2_17 ev2_17
      refine g_iinc (np := 127) (v := v2_17) (lv' := [some (.ref (xad (fX K) 7 0)), some (.ref (xad (fX K) 2 0)), some (.int v2_17), none, none, none, none, none]) B.1 dX2_addUpSets_124 rfl (by rw [ev2_17]; rfl) (by decide) rfl rfl rfl ?_
      refine g_goto (tgt := 2) B.1 dX2_addUpSets_127 (by decide) ?_
      refine Go.lle [some (.ref (xad (fX K) 7 0)), some (.ref (xad (fX K) 2 0)), some (.int v2_17), none, none, none, none, none] (by simp [lle]) ?_
      exact ih v2_17 s16 h
set_option maxRecDepth 20000 in
set_option maxHeartbeats 4000000 in
theorem oX2_addUpSets {l : Launch} {x : Ctx} (hl : l.stackTraces = false)     (s0 : Mem) (Q : Mem → Prop) (E : String → Mem → Prop) (h : wX2_addUpSets   s0 Q E) : MetG l x yX2_addUpSets cX2_addUpSets 8 none 1 21 0 0 [.ref (xad x 7 0), .ref (xad x 2 0)] s0 (RV Q) E := by
  refine MetG.of hl (by decide) (Nat.le_of_ble_eq_true rfl) [some (.ref (xad x 7 0)), some (.ref (xad x 2 0)), none, none, none, none, none, none] rfl (fun K B hx _ => ?_)
  subst hx
  unfold wX2_addUpSets at h
  refine g_iconst (np := 1) (v := 0) B.1 dX2_addUpSets_0 (by decide) rfl ?_
  refine g_istore_n (np := 2) (lv' := [some (.ref (xad (fX K) 7 0)), some (.ref (xad (fX K) 2 0)), some (.int 0), none, none, none, none, none]) B.1 dX2_addUpSets_1 (by decide) rfl rfl rfl ?_
  obtain ⟨m20, h⟩ := h
  refine Go.lle [some (.ref (xad (fX K) 7 0)), some (.ref (xad (fX K) 2 0)), some (.int 0), none, none, none, none, none] (by simp [lle]) ?_
  refine oX2_addUpSets_2 B    (fun s19 h => ?_) (Nat.le_of_ble_eq_true rfl) (Nat.le_of_ble_eq_true rfl) m20 0  s0 h
  exact g_vret B rfl (Nat.le_of_ble_eq_true rfl) (Nat.le_of_ble_eq_true rfl) dX2_addUpSets_130 ⟨rfl, h⟩
def wX2_isBetter  (a1 : Int32) (a2 : Int32) (s0 : Mem) (Q : Int32 → Mem → Prop) (E : String → Mem → Prop) : Prop := vp_in a1 (iaLen 2) ∧ vp_in a2 (iaLen 2) ∧ ((rd s0 10 2 a1.toNatClampNeg = rd s0 10 2 a2.toNatClampNeg → vp_in a1 (iaLen 0) ∧ vp_in a2 (iaLen 0) ∧ ((rd s0 10 0 a1.toNatClampNeg = rd s0 10 0 a2.toNatClampNeg → ∀ v3_1 : Int32, v3_1 = (a1 ^^^ a2) → (((a1 &&& v3_1) &&& (-v3_1) = 0 → Q 0 s0) ∧ (¬ (a1 &&& v3_1) &&& (-v3_1) = 0 → Q 1 s0))) ∧ (¬ rd s0 10 0 a1.toNatClampNeg = rd s0 10 0 a2.toNatClampNeg → vp_in a1 (iaLen 0) ∧ vp_in a2 (iaLen 0) ∧ ((rd s0 10 0 a2.toNatClampNeg ≤ rd s0 10 0 a1.toNatClampNeg → Q 0 s0) ∧ (¬ rd s0 10 0 a2.toNatClampNeg ≤ rd s0 10 0 a1.toNatClampNeg → Q 1 s0))))) ∧ (¬ rd s0 10 2 a1.toNatClampNeg = rd s0 10 2 a2.toNatClampNeg → vp_in a1 (iaLen 2) ∧ vp_in a2 (iaLen 2) ∧ ((rd s0 10 2 a2.toNatClampNeg ≤ rd s0 10 2 a1.toNatClampNeg → Q 0 s0) ∧ (¬ rd s0 10 2 a2.toNatClampNeg ≤ rd s0 10 2 a1.toNatClampNeg → Q 1 s0))))
set_option maxRecDepth 20000 in
set_option maxHeartbeats 4000000 in
theorem oX2_isBetter {l : Launch} {x : Ctx} (hl : l.stackTraces = false)   (a1 : Int32) (a2 : Int32)  (s0 : Mem) (Q : Int32 → Mem → Prop) (E : String → Mem → Prop) (h : wX2_isBetter  a1 a2 s0 Q E) : MetG l x yX2_isBetter cX2_isBetter 4 (some .boolean) 0 0 0 0 [.ref (xad x 7 0), .int a1, .int a2] s0 (RI Q) E := by
  refine MetG.of hl (by decide) (Nat.le_of_ble_eq_true rfl) [some (.ref (xad x 7 0)), some (.int a1), some (.int a2), none] rfl (fun K B hx _ => ?_)
  subst hx
  unfold wX2_isBetter at h
  refine g_aload_n (np := 1) B.1 dX2_isBetter_0 rfl rfl ?_
  refine gf_YBlendFinder_18_7 (np := 4) B.1 dX2_isBetter_1 rfl ?_
  refine g_iload_n (np := 5) B.1 dX2_isBetter_4 rfl rfl ?_
  refine g_iald (np := 6) B.1 10 2 (by decide : (2 : Nat) < 8) rfl rfl h.1 dX2_isBetter_5 rfl ?_
  replace h := h.2
  refine g_aload_n (np := 7) B.1 dX2_isBetter_6 rfl rfl ?_
  refine gf_YBlendFinder_18_7 (np := 10) B.1 dX2_isBetter_7 rfl ?_
  refine g_iload_n (np := 11) B.1 dX2_isBetter_10 rfl rfl ?_
  refine g_iald (np := 12) B.1 10 2 (by decide : (2 : Nat) < 8) rfl rfl h.1 dX2_isBetter_11 rfl ?_
  replace h := h.2
  refine g_icmp_eq (np := 15) (tgt := 36) B.1 dX2_isBetter_12 (by decide) rfl (fun q => ?_) (fun q => ?_)
  · replace h := h.1 q
    refine g_aload_n (np := 37) B.1 dX2_isBetter_36 rfl rfl ?_
    refine gf_YBlendFinder_9_7 (np := 40) B.1 dX2_isBetter_37 rfl ?_
    refine g_iload_n (np := 41) B.1 dX2_isBetter_40 rfl rfl ?_
    refine g_iald (np := 42) B.1 10 0 (by decide : (0 : Nat) < 8) rfl rfl h.1 dX2_isBetter_41 rfl ?_
    replace h := h.2
    refine g_aload_n (np := 43) B.1 dX2_isBetter_42 rfl rfl ?_
    refine gf_YBlendFinder_9_7 (np := 46) B.1 dX2_isBetter_43 rfl ?_
    refine g_iload_n (np := 47) B.1 dX2_isBetter_46 rfl rfl ?_
    refine g_iald (np := 48) B.1 10 0 (by decide : (0 : Nat) < 8) rfl rfl h.1 dX2_isBetter_47 rfl ?_
    replace h := h.2
    refine g_icmp_eq (np := 51) (tgt := 72) B.1 dX2_isBetter_48 (by decide) rfl (fun q => ?_) (fun q => ?_)
    · replace h := h.1 q
      refine g_iload_n (np := 73) B.1 dX2_isBetter_72 rfl rfl ?_
      refine g_iload_n (np := 74) B.1 dX2_isBetter_73 rfl rfl ?_
      refine g_ixor (np := 75) B.1 dX2_isBetter_74 rfl ?_
      refine g_topi (fun v3_1 ev3_1 => ?_)
      replace h := h v3_1 ev3_1
      refine g_istore_n (np := 76) (lv' := [some (.ref (xad (fX K) 7 0)), some (.int a1), some (.int a2), some (.int v3_1)]) B.1 dX2_isBetter_75 (by decide) rfl rfl rfl ?_
      refine g_iload_n (np := 77) B.1 dX2_isBetter_76 rfl rfl ?_
      refine g_iload_n (np := 78) B.1 dX2_isBetter_77 rfl rfl ?_
      refine g_iand (np := 79) B.1 dX2_isBetter_78 rfl ?_
      refine g_iload_n (np := 80) B.1 dX2_isBetter_79 rfl rfl ?_
      refine g_ineg (np := 81) B.1 dX2_isBetter_80 rfl ?_
      refine g_iand (np := 82) B.1 dX2_isBetter_81 rfl ?_
      refine g_if_eq (np := 85) (tgt := 89) B.1 dX2_isBetter_82 (by decide) rfl (fun q => ?_) (fun q => ?_)
      · replace h := h.1 q
        refine g_iconst (np := 90) (v := 0) B.1 dX2_isBetter_89 (by decide) rfl ?_
        exact g_iret B (ty := .boolean) rfl (by decide) (Nat.le_of_ble_eq_true rfl) (Nat.le_of_ble_eq_true rfl) dX2_isBetter_90 ⟨_, rfl, h⟩
      · replace h := h.2 q
        refine g_iconst (np := 86) (v := 1) B.1 dX2_isBetter_85 (by decide) rfl ?_
        refine g_goto (tgt := 90) B.1 dX2_isBetter_86 (by decide) ?_
        exact g_iret B (ty := .boolean) rfl (by decide) (Nat.le_of_ble_eq_true rfl) (Nat.le_of_ble_eq_true rfl) dX2_isBetter_90 ⟨_, rfl, h⟩
    · replace h := h.2 q
      refine g_aload_n (np := 52) B.1 dX2_isBetter_51 rfl rfl ?_
      refine gf_YBlendFinder_9_7 (np := 55) B.1 dX2_isBetter_52 rfl ?_
      refine g_iload_n (np := 56) B.1 dX2_isBetter_55 rfl rfl ?_
      refine g_iald (np := 57) B.1 10 0 (by decide : (0 : Nat) < 8) rfl rfl h.1 dX2_isBetter_56 rfl ?_
      replace h := h.2
      refine g_aload_n (np := 58) B.1 dX2_isBetter_57 rfl rfl ?_
      refine gf_YBlendFinder_9_7 (np := 61) B.1 dX2_isBetter_58 rfl ?_
      refine g_iload_n (np := 62) B.1 dX2_isBetter_61 rfl rfl ?_
      refine g_iald (np := 63) B.1 10 0 (by decide : (0 : Nat) < 8) rfl rfl h.1 dX2_isBetter_62 rfl ?_
      replace h := h.2
      refine g_icmp_ge (np := 66) (tgt := 70) B.1 dX2_isBetter_63 (by decide) rfl (fun q => ?_) (fun q => ?_)
      · replace h := h.1 q
        refine g_iconst (np := 71) (v := 0) B.1 dX2_isBetter_70 (by decide) rfl ?_
        exact g_iret B (ty := .boolean) rfl (by decide) (Nat.le_of_ble_eq_true rfl) (Nat.le_of_ble_eq_true rfl) dX2_isBetter_71 ⟨_, rfl, h⟩
      · replace h := h.2 q
        refine g_iconst (np := 67) (v := 1) B.1 dX2_isBetter_66 (by decide) rfl ?_
        refine g_goto (tgt := 71) B.1 dX2_isBetter_67 (by decide) ?_
        exact g_iret B (ty := .boolean) rfl (by decide) (Nat.le_of_ble_eq_true rfl) (Nat.le_of_ble_eq_true rfl) dX2_isBetter_71 ⟨_, rfl, h⟩
  · replace h := h.2 q
    refine g_aload_n (np := 16) B.1 dX2_isBetter_15 rfl rfl ?_
    refine gf_YBlendFinder_18_7 (np := 19) B.1 dX2_isBetter_16 rfl ?_
    refine g_iload_n (np := 20) B.1 dX2_isBetter_19 rfl rfl ?_
    refine g_iald (np := 21) B.1 10 2 (by decide : (2 : Nat) < 8) rfl rfl h.1 dX2_isBetter_20 rfl ?_
    replace h := h.2
    refine g_aload_n (np := 22) B.1 dX2_isBetter_21 rfl rfl ?_
    refine gf_YBlendFinder_18_7 (np := 25) B.1 dX2_isBetter_22 rfl ?_
    refine g_iload_n (np := 26) B.1 dX2_isBetter_25 rfl rfl ?_
    refine g_iald (np := 27) B.1 10 2 (by decide : (2 : Nat) < 8) rfl rfl h.1 dX2_isBetter_26 rfl ?_
    replace h := h.2
    refine g_icmp_ge (np := 30) (tgt := 34) B.1 dX2_isBetter_27 (by decide) rfl (fun q => ?_) (fun q => ?_)
    · replace h := h.1 q
      refine g_iconst (np := 35) (v := 0) B.1 dX2_isBetter_34 (by decide) rfl ?_
      exact g_iret B (ty := .boolean) rfl (by decide) (Nat.le_of_ble_eq_true rfl) (Nat.le_of_ble_eq_true rfl) dX2_isBetter_35 ⟨_, rfl, h⟩
    · replace h := h.2 q
      refine g_iconst (np := 31) (v := 1) B.1 dX2_isBetter_30 (by decide) rfl ?_
      refine g_goto (tgt := 35) B.1 dX2_isBetter_31 (by decide) ?_
      exact g_iret B (ty := .boolean) rfl (by decide) (Nat.le_of_ble_eq_true rfl) (Nat.le_of_ble_eq_true rfl) dX2_isBetter_35 ⟨_, rfl, h⟩
def wX2_bestSet_11   (Q : Int32 → Mem → Prop) (E : String → Mem → Prop)  (X93 : Int32 → Mem → Prop) : Nat → Int32 → Int32 → Int32 → Int32 → Mem → Prop
  | 0, _, _, _, _, _ => False
  | n11 + 1, v2, v3, v4, v5, s0 => wX7_size 0  s0 (fun (r3 : Int32) (s4 : Mem) => ((1 <<< (r3 &&& 31) ≤ v5 → X93 v4 s4) ∧ (¬ 1 <<< (r3 &&& 31) ≤ v5 → vp_in v5 (iaLen 0) ∧ ((rd s4 10 0 v5.toNatClampNeg < v2 → ∀ v5_5 : Int32, v5_5 = (v5 + 1) → wX2_bestSet_11   Q E X93 n11 v2 v3 v4 v5_5 s4) ∧ (¬ rd s4 10 0 v5.toNatClampNeg < v2 → vp_in v5 (iaLen 1) ∧ vp_in v5 (iaLen 0) ∧ ((rd s4 10 1 v5.toNatClampNeg < v3 * (rd s4 10 0 v5.toNatClampNeg) → ∀ v5_6 : Int32, v5_6 = (v5 + 1) → wX2_bestSet_11   Q E X93 n11 v2 v3 v4 v5_6 s4) ∧ (¬ rd s4 10 1 v5.toNatClampNeg < v3 * (rd s4 10 0 v5.toNatClampNeg) → ((v4 = 0 → ∀ v5_7 : Int32, v5_7 = (v5 + 1) → wX2_bestSet_11   Q E X93 n11 v2 v3 v5 v5_7 s4) ∧ (¬ v4 = 0 → wX2_isBetter  v5 v4 s4 (fun (r8 : Int32) (s9 : Mem) => ((r8 = 0 → ∀ v5_10 : Int32, v5_10 = (v5 + 1) → wX2_bestSet_11   Q E X93 n11 v2 v3 v4 v5_10 s9) ∧ (¬ r8 = 0 → ∀ v5_11 : Int32, v5_11 = (v5 + 1) → wX2_bestSet_11   Q E X93 n11 v2 v3 v5 v5_11 s9))) E))))))))) E
def wX2_bestSet  (a2 : Int32) (a3 : Int32) (s0 : Mem) (Q : Int32 → Mem → Prop) (E : String → Mem → Prop) : Prop := wX2_addUpSets   s0 (fun (s2 : Mem) => ∃ m14 : Nat, wX2_bestSet_11   Q E (fun (x4_12 : Int32) (s13 : Mem) => Q x4_12 s13) m14 a2 a3 0 1  s2) E
set_option maxRecDepth 20000 in
set_option maxHeartbeats 4000000 in
theorem oX2_bestSet_11 {K : Fr} {Q : Int32 → Mem → Prop} {E : String → Mem → Prop} (B : Bd K cX2_bestSet "YarnMill$BlendFinder" 7 (some .int) 2 48 0 0 (RI Q) E)    {X93 : Int32 → Mem → Prop} {cells slots : Nat} (hX93 : ∀ (y4 : Int32) (τ : Mem), X93 y4 τ → Go K cells slots τ 93 [none, none, none, none, some (.int y4), none, none] ([])) (hc : cells ≤ 0) (hs : slots ≤ 0) : ∀ (n : Nat) (v2 : Int32) (v3 : Int32) (v4 : Int32) (v5 : Int32) (s0 : Mem), wX2_bestSet_11   Q E X93 n v2 v3 v4 v5 s0 → Go K cells slots s0 11 [some (.ref (xad (fX K) 7 0)), some (.ref (xad (fX K) 2 0)), some (.int v2), some (.int v3), some (.int v4), some (.int v5), none] ([]) := by
  intro n
  induction n with
  | zero => intro v2 v3 v4 v5 s0 h; exact absurd h (by simp [wX2_bestSet_11])
  | succ n ih =>
    intro v2 v3 v4 v5 s0 h
    simp only [wX2_bestSet_11] at h
    refine g_iload (np := 13) B.1 dX2_bestSet_11 rfl rfl ?_
    refine g_iconst (np := 14) (v := 1) B.1 dX2_bestSet_13 (by decide) rfl ?_
    refine g_aload_n (np := 15) B.1 dX2_bestSet_14 rfl rfl ?_
    refine gf_YBlendFinder_25_2 (np := 18) B.1 0 (by decide : (0 : Nat) < 11) dX2_bestSet_15 rfl ?_
    refine gc_YBlendFinder_31 (np := 21) B 0 (by decide : (0 : Nat) < 112) (oX7_size B.1.tr 0 (by decide : (0 : Nat) < 112)   _ _ _ h) (Nat.le_of_ble_eq_true rfl) (Nat.le_of_ble_eq_true rfl) (Nat.le_of_ble_eq_true rfl) hc hs dX2_bestSet_18 rfl (fun r3 s4 h => ?_)
    refine g_ishl (np := 22) B.1 dX2_bestSet_21 rfl ?_
    refine g_icmp_ge (np := 25) (tgt := 93) B.1 dX2_bestSet_22 (by decide) rfl (fun q => ?_) (fun q => ?_)
    · replace h := h.1 q
      refine Go.lle [none, none, none, none, some (.int v4), none, none] (by simp [lle]) ?_
      exact hX93 v4 s4 h
    · replace h := h.2 q
      refine g_aload_n (np := 26) B.1 dX2_bestSet_25 rfl rfl ?_
      refine gf_YBlendFinder_9_7 (np := 29) B.1 dX2_bestSet_26 rfl ?_
      refine g_iload (np := 31) B.1 dX2_bestSet_29 rfl rfl ?_
      refine g_iald (np := 32) B.1 10 0 (by decide : (0 : Nat) < 8) rfl rfl h.1 dX2_bestSet_31 rfl ?_
      replace h := h.2
      refine g_iload_n (np := 33) B.1 dX2_bestSet_32 rfl rfl ?_
      refine g_icmp_lt (np := 36) (tgt := 59) B.1 dX2_bestSet_33 (by decide) rfl (fun q => ?_) (fun q => ?_)
      · replace h := h.1 q
        refine g_iconst (np := 60) (v := 0) B.1 dX2_bestSet_59 (by decide) rfl ?_
        refine g_istore (np := 62) (lv' := [some (.ref (xad (fX K) 7 0)), some (.ref (xad (fX K) 2 0)), some (.int v2), some (.int v3), some (.int v4), some (.int v5), some (.int 0)]) B.1 dX2_bestSet_60 (by decide) rfl rfl rfl ?_
        refine g_iload (np := 64) B.1 dX2_bestSet_62 rfl rfl ?_
        refine g_if_eq (np := 67) (tgt := 87) B.1 dX2_bestSet_64 (by decide) rfl (fun _ => ?_) (fun q => absurd (by decide) q)
        obtain ⟨v5_5, ev5_5⟩ : ∃ y : Int32, y = v5 + 1 := ⟨_, rfl⟩
        replace h := h v5_5 ev5_5
        refine g_iinc (np := 90) (v := v5_5) (lv' := [some (.ref (xad (fX K) 7 0)), some (.ref (xad (fX K) 2 0)), some (.int v2), some (.int v3), some (.int v4), some (.int v5_5), some (.int 0)]) B.1 dX2_bestSet_87 rfl (by rw [ev5_5]; rfl) (by decide) rfl rfl rfl ?_
        refine g_goto (tgt := 11) B.1 dX2_bestSet_90 (by decide) ?_
        refine Go.lle [some (.ref (xad (fX K) 7 0)), some (.ref (xad (fX K) 2 0)), some (.int v2), some (.int v3), some (.int v4), some (.int v5_5), none] (by simp [lle]) ?_
        exact ih v2 v3 v4 v5_5 s4 h
      · replace h := h.2 q
        refine g_aload_n (np := 37) B.1 dX2_bestSet_36 rfl rfl ?_
        refine gf_YBlendFinder_15_7 (np := 40) B.1 dX2_bestSet_37 rfl ?_
        refine g_iload (np := 42) B.1 dX2_bestSet_40 rfl rfl ?_
        refine g_iald (np := 43) B.1 10 1 (by decide : (1 : Nat) < 8) rfl rfl h.1 dX2_bestSet_42 rfl ?_
        replace h := h.2
        refine g_iload_n (np := 44) B.1 dX2_bestSet_43 rfl rfl ?_
        refine g_aload_n (np := 45) B.1 dX2_bestSet_44 rfl rfl ?_
        refine gf_YBlendFinder_9_7 (np := 48) B.1 dX2_bestSet_45 rfl ?_
        refine g_iload (np := 50) B.1 dX2_bestSet_48 rfl rfl ?_
        refine g_iald (np := 51) B.1 10 0 (by decide : (0 : Nat) < 8) rfl rfl h.1 dX2_bestSet_50 rfl ?_
        replace h := h.2
        refine g_imul (np := 52) B.1 dX2_bestSet_51 rfl ?_
        refine g_icmp_lt (np := 55) (tgt := 59) B.1 dX2_bestSet_52 (by decide) rfl (fun q => ?_) (fun q => ?_)
        · replace h := h.1 q
          refine g_iconst (np := 60) (v := 0) B.1 dX2_bestSet_59 (by decide) rfl ?_
          refine g_istore (np := 62) (lv' := [some (.ref (xad (fX K) 7 0)), some (.ref (xad (fX K) 2 0)), some (.int v2), some (.int v3), some (.int v4), some (.int v5), some (.int 0)]) B.1 dX2_bestSet_60 (by decide) rfl rfl rfl ?_
          refine g_iload (np := 64) B.1 dX2_bestSet_62 rfl rfl ?_
          refine g_if_eq (np := 67) (tgt := 87) B.1 dX2_bestSet_64 (by decide) rfl (fun _ => ?_) (fun q => absurd (by decide) q)
          obtain ⟨v5_6, ev5_6⟩ : ∃ y : Int32, y = v5 + 1 := ⟨_, rfl⟩
          replace h := h v5_6 ev5_6
          refine g_iinc (np := 90) (v := v5_6) (lv' := [some (.ref (xad (fX K) 7 0)), some (.ref (xad (fX K) 2 0)), some (.int v2), some (.int v3), some (.int v4), some (.int v5_6), some (.int 0)]) B.1 dX2_bestSet_87 rfl (by rw [ev5_6]; rfl) (by decide) rfl rfl rfl ?_
          refine g_goto (tgt := 11) B.1 dX2_bestSet_90 (by decide) ?_
          refine Go.lle [some (.ref (xad (fX K) 7 0)), some (.ref (xad (fX K) 2 0)), some (.int v2), some (.int v3), some (.int v4), some (.int v5_6), none] (by simp [lle]) ?_
          exact ih v2 v3 v4 v5_6 s4 h
        · replace h := h.2 q
          refine g_iconst (np := 56) (v := 1) B.1 dX2_bestSet_55 (by decide) rfl ?_
          refine g_goto (tgt := 60) B.1 dX2_bestSet_56 (by decide) ?_
          refine g_istore (np := 62) (lv' := [some (.ref (xad (fX K) 7 0)), some (.ref (xad (fX K) 2 0)), some (.int v2), some (.int v3), some (.int v4), some (.int v5), some (.int 1)]) B.1 dX2_bestSet_60 (by decide) rfl rfl rfl ?_
          refine g_iload (np := 64) B.1 dX2_bestSet_62 rfl rfl ?_
          refine g_if_eq (np := 67) (tgt := 87) B.1 dX2_bestSet_64 (by decide) rfl (fun q => absurd q (by decide)) (fun _ => ?_)
          refine g_iload (np := 69) B.1 dX2_bestSet_67 rfl rfl ?_
          refine g_if_eq (np := 72) (tgt := 83) B.1 dX2_bestSet_69 (by decide) rfl (fun q => ?_) (fun q => ?_)
          · replace h := h.1 q
            refine g_iload (np := 85) B.1 dX2_bestSet_83 rfl rfl ?_
            refine g_istore (np := 87) (lv' := [some (.ref (xad (fX K) 7 0)), some (.ref (xad (fX K) 2 0)), some (.int v2), some (.int v3), some (.int v5), some (.int v5), some (.int 1)]) B.1 dX2_bestSet_85 (by decide) rfl rfl rfl ?_
            obtain ⟨v5_7, ev5_7⟩ : ∃ y : Int32, y = v5 + 1 := ⟨_, rfl⟩
            replace h := h v5_7 ev5_7
            refine g_iinc (np := 90) (v := v5_7) (lv' := [some (.ref (xad (fX K) 7 0)), some (.ref (xad (fX K) 2 0)), some (.int v2), some (.int v3), some (.int v5), some (.int v5_7), some (.int 1)]) B.1 dX2_bestSet_87 rfl (by rw [ev5_7]; rfl) (by decide) rfl rfl rfl ?_
            refine g_goto (tgt := 11) B.1 dX2_bestSet_90 (by decide) ?_
            refine Go.lle [some (.ref (xad (fX K) 7 0)), some (.ref (xad (fX K) 2 0)), some (.int v2), some (.int v3), some (.int v5), some (.int v5_7), none] (by simp [lle]) ?_
            exact ih v2 v3 v5 v5_7 s4 h
          · replace h := h.2 q
            refine g_aload_n (np := 73) B.1 dX2_bestSet_72 rfl rfl ?_
            refine g_iload (np := 75) B.1 dX2_bestSet_73 rfl rfl ?_
            refine g_iload (np := 77) B.1 dX2_bestSet_75 rfl rfl ?_
            refine gc_YBlendFinder_37 (np := 80) B   (oX2_isBetter B.1.tr   v5 v4  _ _ _ h) (Nat.le_of_ble_eq_true rfl) (Nat.le_of_ble_eq_true rfl) (Nat.le_of_ble_eq_true rfl) hc hs dX2_bestSet_77 rfl (fun r8 s9 h => ?_)
            refine g_if_eq (np := 83) (tgt := 87) B.1 dX2_bestSet_80 (by decide) rfl (fun q => ?_) (fun q => ?_)
            · replace h := h.1 q
              obtain ⟨v5_10, ev5_10⟩ : ∃ y : Int32, y = v5 + 1 := ⟨_, rfl⟩
              replace h := h v5_10 ev5_10
              refine g_iinc (np := 90) (v := v5_10) (lv' := [some (.ref (xad (fX K) 7 0)), some (.ref (xad (fX K) 2 0)), some (.int v2), some (.int v3), some (.int v4), some (.int v5_10), some (.int 1)]) B.1 dX2_bestSet_87 rfl (by rw [ev5_10]; rfl) (by decide) rfl rfl rfl ?_
              refine g_goto (tgt := 11) B.1 dX2_bestSet_90 (by decide) ?_
              refine Go.lle [some (.ref (xad (fX K) 7 0)), some (.ref (xad (fX K) 2 0)), some (.int v2), some (.int v3), some (.int v4), some (.int v5_10), none] (by simp [lle]) ?_
              exact ih v2 v3 v4 v5_10 s9 h
            · replace h := h.2 q
              refine g_iload (np := 85) B.1 dX2_bestSet_83 rfl rfl ?_
              refine g_istore (np := 87) (lv' := [some (.ref (xad (fX K) 7 0)), some (.ref (xad (fX K) 2 0)), some (.int v2), some (.int v3), some (.int v5), some (.int v5), some (.int 1)]) B.1 dX2_bestSet_85 (by decide) rfl rfl rfl ?_
              obtain ⟨v5_11, ev5_11⟩ : ∃ y : Int32, y = v5 + 1 := ⟨_, rfl⟩
              replace h := h v5_11 ev5_11
              refine g_iinc (np := 90) (v := v5_11) (lv' := [some (.ref (xad (fX K) 7 0)), some (.ref (xad (fX K) 2 0)), some (.int v2), some (.int v3), some (.int v5), some (.int v5_11), some (.int 1)]) B.1 dX2_bestSet_87 rfl (by rw [ev5_11]; rfl) (by decide) rfl rfl rfl ?_
              refine g_goto (tgt := 11) B.1 dX2_bestSet_90 (by decide) ?_
              refine Go.lle [some (.ref (xad (fX K) 7 0)), some (.ref (xad (fX K) 2 0)), some (.int v2), some (.int v3), some (.int v5), some (.int v5_11), none] (by simp [lle]) ?_
              exact ih v2 v3 v5 v5_11 s9 h
set_option maxRecDepth 20000 in
set_option maxHeartbeats 4000000 in
theorem oX2_bestSet {l : Launch} {x : Ctx} (hl : l.stackTraces = false)   (a2 : Int32) (a3 : Int32)  (s0 : Mem) (Q : Int32 → Mem → Prop) (E : String → Mem → Prop) (h : wX2_bestSet  a2 a3 s0 Q E) : MetG l x yX2_bestSet cX2_bestSet 7 (some .int) 2 48 0 0 [.ref (xad x 7 0), .ref (xad x 2 0), .int a2, .int a3] s0 (RI Q) E := by
  refine MetG.of hl (by decide) (Nat.le_of_ble_eq_true rfl) [some (.ref (xad x 7 0)), some (.ref (xad x 2 0)), some (.int a2), some (.int a3), none, none, none] rfl (fun K B hx _ => ?_)
  subst hx
  unfold wX2_bestSet at h
  refine g_aload_n (np := 1) B.1 dX2_bestSet_0 rfl rfl ?_
  refine g_aload_n (np := 2) B.1 dX2_bestSet_1 rfl rfl ?_
  refine gc_YBlendFinder_21 (np := 5) B   (oX2_addUpSets B.1.tr     _ _ _ h) (Nat.le_of_ble_eq_true rfl) (Nat.le_of_ble_eq_true rfl) (Nat.le_of_ble_eq_true rfl) (Nat.le_of_ble_eq_true rfl) (Nat.le_of_ble_eq_true rfl) dX2_bestSet_2 rfl (fun s2 h => ?_)
  refine g_iconst (np := 6) (v := 0) B.1 dX2_bestSet_5 (by decide) rfl ?_
  refine g_istore (np := 8) (lv' := [some (.ref (xad (fX K) 7 0)), some (.ref (xad (fX K) 2 0)), some (.int a2), some (.int a3), some (.int 0), none, none]) B.1 dX2_bestSet_6 (by decide) rfl rfl rfl ?_
  refine g_iconst (np := 9) (v := 1) B.1 dX2_bestSet_8 (by decide) rfl ?_
  refine g_istore (np := 11) (lv' := [some (.ref (xad (fX K) 7 0)), some (.ref (xad (fX K) 2 0)), some (.int a2), some (.int a3), some (.int 0), some (.int 1), none]) B.1 dX2_bestSet_9 (by decide) rfl rfl rfl ?_
  obtain ⟨m14, h⟩ := h
  refine Go.lle [some (.ref (xad (fX K) 7 0)), some (.ref (xad (fX K) 2 0)), some (.int a2), some (.int a3), some (.int 0), some (.int 1), none] (by simp [lle]) ?_
  refine oX2_bestSet_11 B    (fun x4_12 s13 h => ?_) (Nat.le_of_ble_eq_true rfl) (Nat.le_of_ble_eq_true rfl) m14 a2 a3 0 1  s2 h
  refine g_iload (np := 95) B.1 dX2_bestSet_93 rfl rfl ?_
  exact g_iret B (ty := .int) rfl rfl (Nat.le_of_ble_eq_true rfl) (Nat.le_of_ble_eq_true rfl) dX2_bestSet_95 ⟨_, rfl, h⟩
def wX2_valueByAllSets  (a2 : Int32) (a3 : Int32) (s0 : Mem) (Q : Int32 → Mem → Prop) (E : String → Mem → Prop) : Prop := wX2_bestSet  a2 a3 s0 (fun (r1 : Int32) (s2 : Mem) => ((¬ r1 = 0 → vp_in r1 (iaLen 2) ∧ Q (rd s2 10 2 r1.toNatClampNeg) s2) ∧ (r1 = 0 → Q ((-1)) s2))) E
set_option maxRecDepth 20000 in
set_option maxHeartbeats 4000000 in
theorem oX2_valueByAllSets {l : Launch} {x : Ctx} (hl : l.stackTraces = false)   (a2 : Int32) (a3 : Int32)  (s0 : Mem) (Q : Int32 → Mem → Prop) (E : String → Mem → Prop) (h : wX2_valueByAllSets  a2 a3 s0 Q E) : MetG l x yX2_valueByAllSets cX2_valueByAllSets 5 (some .int) 3 74 0 0 [.ref (xad x 7 0), .ref (xad x 2 0), .int a2, .int a3] s0 (RI Q) E := by
  refine MetG.of hl (by decide) (Nat.le_of_ble_eq_true rfl) [some (.ref (xad x 7 0)), some (.ref (xad x 2 0)), some (.int a2), some (.int a3), none] rfl (fun K B hx _ => ?_)
  subst hx
  unfold wX2_valueByAllSets at h
  refine g_aload_n (np := 1) B.1 dX2_valueByAllSets_0 rfl rfl ?_
  refine g_aload_n (np := 2) B.1 dX2_valueByAllSets_1 rfl rfl ?_
  refine g_iload_n (np := 3) B.1 dX2_valueByAllSets_2 rfl rfl ?_
  refine g_iload_n (np := 4) B.1 dX2_valueByAllSets_3 rfl rfl ?_
  refine gc_YBlendFinder_41 (np := 7) B   (oX2_bestSet B.1.tr   a2 a3  _ _ _ h) (Nat.le_of_ble_eq_true rfl) (Nat.le_of_ble_eq_true rfl) (Nat.le_of_ble_eq_true rfl) (Nat.le_of_ble_eq_true rfl) (Nat.le_of_ble_eq_true rfl) dX2_valueByAllSets_4 rfl (fun r1 s2 h => ?_)
  refine g_istore (np := 9) (lv' := [some (.ref (xad (fX K) 7 0)), some (.ref (xad (fX K) 2 0)), some (.int a2), some (.int a3), some (.int r1)]) B.1 dX2_valueByAllSets_7 (by decide) rfl rfl rfl ?_
  refine g_iload (np := 11) B.1 dX2_valueByAllSets_9 rfl rfl ?_
  refine g_if_ne (np := 14) (tgt := 18) B.1 dX2_valueByAllSets_11 (by decide) rfl (fun q => ?_) (fun q => ?_)
  · replace h := h.1 q
    refine g_aload_n (np := 19) B.1 dX2_valueByAllSets_18 rfl rfl ?_
    refine gf_YBlendFinder_18_7 (np := 22) B.1 dX2_valueByAllSets_19 rfl ?_
    refine g_iload (np := 24) B.1 dX2_valueByAllSets_22 rfl rfl ?_
    refine g_iald (np := 25) B.1 10 2 (by decide : (2 : Nat) < 8) rfl rfl h.1 dX2_valueByAllSets_24 rfl ?_
    replace h := h.2
    exact g_iret B (ty := .int) rfl rfl (Nat.le_of_ble_eq_true rfl) (Nat.le_of_ble_eq_true rfl) dX2_valueByAllSets_25 ⟨_, rfl, h⟩
  · replace h := h.2 q
    refine g_iconst (np := 15) (v := (-1)) B.1 dX2_valueByAllSets_14 (by decide) rfl ?_
    refine g_goto (tgt := 25) B.1 dX2_valueByAllSets_15 (by decide) ?_
    exact g_iret B (ty := .int) rfl rfl (Nat.le_of_ble_eq_true rfl) (Nat.le_of_ble_eq_true rfl) dX2_valueByAllSets_25 ⟨_, rfl, h⟩
def wX2_search_36   (Q : Mem → Prop) (E : String → Mem → Prop) (W : Int32 → Int32 → Int32 → Int32 → Mem → (Mem → Prop) → Prop)  : Int32 → Int32 → Int32 → Int32 → Mem → Prop := fun v2 v3 v4 v5 s0 => wX7_size 0  s0 (fun (r1 : Int32) (s2 : Mem) => ((v2 < r1 → wX7_get 1 v2 s2 (fun (r3 : Int32) (s4 : Mem) => wX7_get 2 v2 s4 (fun (r5 : Int32) (s6 : Mem) => wX7_get 4 v2 s6 (fun (r7 : Int32) (s8 : Mem) => W (v2 + 1) (v3 + r3) (v4 + (r3 * r5)) (v5 + r7) s8 (fun (s10 : Mem) => W (v2 + 1) v3 v4 v5 s10 (fun (s12 : Mem) => Q s12))) E) E) E) ∧ (¬ v2 < r1 → Q s2))) E
def wX2_search : Nat → Int32 → Int32 → Int32 → Int32 → Mem → (Mem → Prop) → (String → Mem → Prop) → Prop
  | 0, _, _, _, _, _, _, _ => False
  | d + 1, a3, a4, a5, a6, s0, Q, E => ((a6 < rd s0 7 0 5 → ((a4 < rd s0 7 0 3 → wX2_search_36   Q E (fun a3_ a4_ a5_ a6_ τ Q2 => wX2_search d a3_ a4_ a5_ a6_ τ Q2 E)  a3 a4 a5 a6  s0) ∧ (¬ a4 < rd s0 7 0 3 → ((a5 < (rd s0 7 0 4) * a4 → wX2_search_36   Q E (fun a3_ a4_ a5_ a6_ τ Q2 => wX2_search d a3_ a4_ a5_ a6_ τ Q2 E)  a3 a4 a5 a6  s0) ∧ (¬ a5 < (rd s0 7 0 4) * a4 → ∀ s13 : Mem, s13 = wr s0 7 0 5 a6 → Q s13))))) ∧ (¬ a6 < rd s0 7 0 5 → Q s0))
set_option maxRecDepth 20000 in
set_option maxHeartbeats 4000000 in
theorem oX2_search_36 {d : Nat} {K : Fr} {Q : Mem → Prop} {E : String → Mem → Prop} (B : Bd K cX2_search "YarnMill$BlendFinder" 7 none (1 + (d + 1)) (21 + (d + 1) * 26) 0 0 (RV Q) E)    {W : Int32 → Int32 → Int32 → Int32 → Mem → (Mem → Prop) → Prop} (hW : ∀ (a3 : Int32) (a4 : Int32) (a5 : Int32) (a6 : Int32) (τ : Mem) (Q2 : Mem → Prop), W a3 a4 a5 a6 τ Q2 → MetG (fL K) (fX K) yX2_search cX2_search 7 none (1 + d) (21 + d * 26) 0 0 [.ref (xad (fX K) 7 0), .ref (xad (fX K) 2 0), .int a3, .int a4, .int a5, .int a6] τ (RV Q2) E)  {cells slots : Nat}  (hc : cells ≤ 0) (hs : slots ≤ 0) : ∀ (v2 : Int32) (v3 : Int32) (v4 : Int32) (v5 : Int32) (s0 : Mem), wX2_search_36   Q E W  v2 v3 v4 v5 s0 → Go K cells slots s0 36 [some (.ref (xad (fX K) 7 0)), some (.ref (xad (fX K) 2 0)), some (.int v2), some (.int v3), some (.int v4), some (.int v5), none] ([]) := by
  intro v2 v3 v4 v5 s0 h
  unfold wX2_search_36 at h
  refine g_iload_n (np := 37) B.1 dX2_search_36 rfl rfl ?_
  refine g_aload_n (np := 38) B.1 dX2_search_37 rfl rfl ?_
  refine gf_YBlendFinder_25_2 (np := 41) B.1 0 (by decide : (0 : Nat) < 11) dX2_search_38 rfl ?_
  refine gc_YBlendFinder_31 (np := 44) B 0 (by decide : (0 : Nat) < 112) (oX7_size B.1.tr 0 (by decide : (0 : Nat) < 112)   _ _ _ h) (by omega) (by omega) (Nat.le_of_ble_eq_true rfl) hc hs dX2_search_41 rfl (fun r1 s2 h => ?_)
  refine g_icmp_lt (np := 47) (tgt := 48) B.1 dX2_search_44 (by decide) rfl (fun q => ?_) (fun q => ?_)
  · replace h := h.1 q
    refine g_aload_n (np := 49) B.1 dX2_search_48 rfl rfl ?_
    refine gf_YBlendFinder_45_2 (np := 52) B.1 0 (by decide : (0 : Nat) < 11) dX2_search_49 rfl ?_
    refine g_iload_n (np := 53) B.1 dX2_search_52 rfl rfl ?_
    refine gc_YBlendFinder_47 (np := 56) B 1 (by decide : (1 : Nat) < 112) (oX7_get B.1.tr 1 (by decide : (1 : Nat) < 112) v2  _ _ _ h) (by omega) (by omega) (Nat.le_of_ble_eq_true rfl) hc hs dX2_search_53 rfl (fun r3 s4 h => ?_)
    refine g_istore (np := 58) (lv' := [some (.ref (xad (fX K) 7 0)), some (.ref (xad (fX K) 2 0)), some (.int v2), some (.int v3), some (.int v4), some (.int v5), some (.int r3)]) B.1 dX2_search_56 (by decide) rfl rfl rfl ?_
    refine g_aload_n (np := 59) B.1 dX2_search_58 rfl rfl ?_
    refine g_aload_n (np := 60) B.1 dX2_search_59 rfl rfl ?_
    refine g_iload_n (np := 61) B.1 dX2_search_60 rfl rfl ?_
    refine g_iconst (np := 62) (v := 1) B.1 dX2_search_61 (by decide) rfl ?_
    refine g_iadd (np := 63) B.1 dX2_search_62 rfl ?_
    refine g_iload_n (np := 64) B.1 dX2_search_63 rfl rfl ?_
    refine g_iload (np := 66) B.1 dX2_search_64 rfl rfl ?_
    refine g_iadd (np := 67) B.1 dX2_search_66 rfl ?_
    refine g_iload (np := 69) B.1 dX2_search_67 rfl rfl ?_
    refine g_iload (np := 71) B.1 dX2_search_69 rfl rfl ?_
    refine g_aload_n (np := 72) B.1 dX2_search_71 rfl rfl ?_
    refine gf_YBlendFinder_51_2 (np := 75) B.1 0 (by decide : (0 : Nat) < 11) dX2_search_72 rfl ?_
    refine g_iload_n (np := 76) B.1 dX2_search_75 rfl rfl ?_
    refine gc_YBlendFinder_47 (np := 79) B 2 (by decide : (2 : Nat) < 112) (oX7_get B.1.tr 2 (by decide : (2 : Nat) < 112) v2  _ _ _ h) (by omega) (by omega) (Nat.le_of_ble_eq_true rfl) hc hs dX2_search_76 rfl (fun r5 s6 h => ?_)
    refine g_imul (np := 80) B.1 dX2_search_79 rfl ?_
    refine g_iadd (np := 81) B.1 dX2_search_80 rfl ?_
    refine g_iload (np := 83) B.1 dX2_search_81 rfl rfl ?_
    refine g_aload_n (np := 84) B.1 dX2_search_83 rfl rfl ?_
    refine gf_YBlendFinder_54_2 (np := 87) B.1 0 (by decide : (0 : Nat) < 11) dX2_search_84 rfl ?_
    refine g_iload_n (np := 88) B.1 dX2_search_87 rfl rfl ?_
    refine gc_YBlendFinder_47 (np := 91) B 4 (by decide : (4 : Nat) < 112) (oX7_get B.1.tr 4 (by decide : (4 : Nat) < 112) v2  _ _ _ h) (by omega) (by omega) (Nat.le_of_ble_eq_true rfl) hc hs dX2_search_88 rfl (fun r7 s8 h => ?_)
    refine g_iadd (np := 92) B.1 dX2_search_91 rfl ?_
    refine gc_YBlendFinder_67 (np := 95) B   (hW (v2 + 1) (v3 + r3) (v4 + (r3 * r5)) (v5 + r7) _ _ h) (by omega) (by omega) (Nat.le_of_ble_eq_true rfl) hc hs dX2_search_92 rfl (fun s10 h => ?_)
    refine g_aload_n (np := 96) B.1 dX2_search_95 rfl rfl ?_
    refine g_aload_n (np := 97) B.1 dX2_search_96 rfl rfl ?_
    refine g_iload_n (np := 98) B.1 dX2_search_97 rfl rfl ?_
    refine g_iconst (np := 99) (v := 1) B.1 dX2_search_98 (by decide) rfl ?_
    refine g_iadd (np := 100) B.1 dX2_search_99 rfl ?_
    refine g_iload_n (np := 101) B.1 dX2_search_100 rfl rfl ?_
    refine g_iload (np := 103) B.1 dX2_search_101 rfl rfl ?_
    refine g_iload (np := 105) B.1 dX2_search_103 rfl rfl ?_
    refine gc_YBlendFinder_67 (np := 108) B   (hW (v2 + 1) v3 v4 v5 _ _ h) (by omega) (by omega) (Nat.le_of_ble_eq_true rfl) hc hs dX2_search_105 rfl (fun s12 h => ?_)
    exact g_vret B rfl hc hs dX2_search_108 ⟨rfl, h⟩
  · replace h := h.2 q
    exact g_vret B rfl hc hs dX2_search_47 ⟨rfl, h⟩
set_option maxRecDepth 20000 in
set_option maxHeartbeats 4000000 in
theorem oX2_search {l : Launch} {x : Ctx} (hl : l.stackTraces = false) : ∀ (d : Nat) (a3 : Int32) (a4 : Int32) (a5 : Int32) (a6 : Int32) (s0 : Mem) (Q : Mem → Prop) (E : String → Mem → Prop), wX2_search d a3 a4 a5 a6 s0 Q E → MetG l x yX2_search cX2_search 7 none (1 + d) (21 + d * 26) 0 0 [.ref (xad x 7 0), .ref (xad x 2 0), .int a3, .int a4, .int a5, .int a6] s0 (RV Q) E := by
  intro d
  induction d with
  | zero => intro a3 a4 a5 a6 s0 Q E h; exact absurd h (by simp [wX2_search])
  | succ d ih =>
    intro a3 a4 a5 a6 s0 Q E h
    simp only [wX2_search] at h
    refine MetG.of hl (by decide) (Nat.le_of_ble_eq_true rfl) [some (.ref (xad x 7 0)), some (.ref (xad x 2 0)), some (.int a3), some (.int a4), some (.int a5), some (.int a6), none] rfl (fun K B hx hl2 => ?_)
    subst hx
    subst hl2
    refine g_iload (np := 2) B.1 dX2_search_0 rfl rfl ?_
    refine g_aload_n (np := 3) B.1 dX2_search_2 rfl rfl ?_
    refine gf_YBlendFinder_64_7 (np := 6) B.1 dX2_search_3 rfl ?_
    refine g_icmp_lt (np := 9) (tgt := 10) B.1 dX2_search_6 (by decide) rfl (fun q => ?_) (fun q => ?_)
    · replace h := h.1 q
      refine g_iload_n (np := 11) B.1 dX2_search_10 rfl rfl ?_
      refine g_aload_n (np := 12) B.1 dX2_search_11 rfl rfl ?_
      refine gf_YBlendFinder_56_7 (np := 15) B.1 dX2_search_12 rfl ?_
      refine g_icmp_lt (np := 18) (tgt := 36) B.1 dX2_search_15 (by decide) rfl (fun q => ?_) (fun q => ?_)
      · replace h := h.1 q
        refine Go.lle [some (.ref (xad (fX K) 7 0)), some (.ref (xad (fX K) 2 0)), some (.int a3), some (.int a4), some (.int a5), some (.int a6), none] (by simp [lle]) ?_
        refine oX2_search_36 B    (fun a3_ a4_ a5_ a6_ τ Q2 h => ih a3_ a4_ a5_ a6_ τ Q2 E h)  (Nat.le_of_ble_eq_true rfl) (Nat.le_of_ble_eq_true rfl) a3 a4 a5 a6  s0 h
      · replace h := h.2 q
        refine g_iload (np := 20) B.1 dX2_search_18 rfl rfl ?_
        refine g_aload_n (np := 21) B.1 dX2_search_20 rfl rfl ?_
        refine gf_YBlendFinder_60_7 (np := 24) B.1 dX2_search_21 rfl ?_
        refine g_iload_n (np := 25) B.1 dX2_search_24 rfl rfl ?_
        refine g_imul (np := 26) B.1 dX2_search_25 rfl ?_
        refine g_icmp_lt (np := 29) (tgt := 36) B.1 dX2_search_26 (by decide) rfl (fun q => ?_) (fun q => ?_)
        · replace h := h.1 q
          refine Go.lle [some (.ref (xad (fX K) 7 0)), some (.ref (xad (fX K) 2 0)), some (.int a3), some (.int a4), some (.int a5), some (.int a6), none] (by simp [lle]) ?_
          refine oX2_search_36 B    (fun a3_ a4_ a5_ a6_ τ Q2 h => ih a3_ a4_ a5_ a6_ τ Q2 E h)  (Nat.le_of_ble_eq_true rfl) (Nat.le_of_ble_eq_true rfl) a3 a4 a5 a6  s0 h
        · replace h := h.2 q
          refine g_aload_n (np := 30) B.1 dX2_search_29 rfl rfl ?_
          refine g_iload (np := 32) B.1 dX2_search_30 rfl rfl ?_
          refine gp_YBlendFinder_64_7 (np := 35) B.1 dX2_search_32 rfl ?_
          refine g_mem (fun s13 es13 => ?_)
          replace h := h s13 es13
          exact g_vret B rfl (Nat.le_of_ble_eq_true rfl) (Nat.le_of_ble_eq_true rfl) dX2_search_35 ⟨rfl, h⟩
    · replace h := h.2 q
      exact g_vret B rfl (Nat.le_of_ble_eq_true rfl) (Nat.le_of_ble_eq_true rfl) dX2_search_9 ⟨rfl, h⟩
def wX2_valueBySearch  (a2 : Int32) (a3 : Int32) (s0 : Mem) (Q : Int32 → Mem → Prop) (E : String → Mem → Prop) : Prop := ∀ s1 : Mem, s1 = wr s0 7 0 3 a2 → ∀ s2 : Mem, s2 = wr s1 7 0 4 a3 → ∀ s3 : Mem, s3 = wr s2 7 0 5 2147483647 → wX2_search 12 0 0 0 0 s3 (fun (s5 : Mem) => ((¬ rd s5 7 0 5 = 2147483647 → Q (rd s5 7 0 5) s5) ∧ (rd s5 7 0 5 = 2147483647 → Q ((-1)) s5))) E
set_option maxRecDepth 20000 in
set_option maxHeartbeats 4000000 in
theorem oX2_valueBySearch {l : Launch} {x : Ctx} (hl : l.stackTraces = false)   (a2 : Int32) (a3 : Int32)  (s0 : Mem) (Q : Int32 → Mem → Prop) (E : String → Mem → Prop) (h : wX2_valueBySearch  a2 a3 s0 Q E) : MetG l x yX2_valueBySearch cX2_valueBySearch 4 (some .int) 14 359 0 0 [.ref (xad x 7 0), .ref (xad x 2 0), .int a2, .int a3] s0 (RI Q) E := by
  refine MetG.of hl (by decide) (Nat.le_of_ble_eq_true rfl) [some (.ref (xad x 7 0)), some (.ref (xad x 2 0)), some (.int a2), some (.int a3)] rfl (fun K B hx _ => ?_)
  subst hx
  unfold wX2_valueBySearch at h
  refine g_aload_n (np := 1) B.1 dX2_valueBySearch_0 rfl rfl ?_
  refine g_iload_n (np := 2) B.1 dX2_valueBySearch_1 rfl rfl ?_
  refine gp_YBlendFinder_56_7 (np := 5) B.1 dX2_valueBySearch_2 rfl ?_
  refine g_mem (fun s1 es1 => ?_)
  replace h := h s1 es1
  refine g_aload_n (np := 6) B.1 dX2_valueBySearch_5 rfl rfl ?_
  refine g_iload_n (np := 7) B.1 dX2_valueBySearch_6 rfl rfl ?_
  refine gp_YBlendFinder_60_7 (np := 10) B.1 dX2_valueBySearch_7 rfl ?_
  refine g_mem (fun s2 es2 => ?_)
  replace h := h s2 es2
  refine g_aload_n (np := 11) B.1 dX2_valueBySearch_10 rfl rfl ?_
  refine g_ldc (np := 13) (v := 2147483647) B.1 b_1599 dX2_valueBySearch_11 rfl ?_
  refine gp_YBlendFinder_64_7 (np := 16) B.1 dX2_valueBySearch_13 rfl ?_
  refine g_mem (fun s3 es3 => ?_)
  replace h := h s3 es3
  refine g_aload_n (np := 17) B.1 dX2_valueBySearch_16 rfl rfl ?_
  refine g_aload_n (np := 18) B.1 dX2_valueBySearch_17 rfl rfl ?_
  refine g_iconst (np := 19) (v := 0) B.1 dX2_valueBySearch_18 (by decide) rfl ?_
  refine g_iconst (np := 20) (v := 0) B.1 dX2_valueBySearch_19 (by decide) rfl ?_
  refine g_iconst (np := 21) (v := 0) B.1 dX2_valueBySearch_20 (by decide) rfl ?_
  refine g_iconst (np := 22) (v := 0) B.1 dX2_valueBySearch_21 (by decide) rfl ?_
  refine gc_YBlendFinder_67 (np := 25) B   (oX2_search B.1.tr 12 0 0 0 0 _ _ _ h) (Nat.le_of_ble_eq_true rfl) (Nat.le_of_ble_eq_true rfl) (Nat.le_of_ble_eq_true rfl) (Nat.le_of_ble_eq_true rfl) (Nat.le_of_ble_eq_true rfl) dX2_valueBySearch_22 rfl (fun s5 h => ?_)
  refine g_aload_n (np := 26) B.1 dX2_valueBySearch_25 rfl rfl ?_
  refine gf_YBlendFinder_64_7 (np := 29) B.1 dX2_valueBySearch_26 rfl ?_
  refine g_ldc (np := 31) (v := 2147483647) B.1 b_1599 dX2_valueBySearch_29 rfl ?_
  refine g_icmp_ne (np := 34) (tgt := 38) B.1 dX2_valueBySearch_31 (by decide) rfl (fun q => ?_) (fun q => ?_)
  · replace h := h.1 q
    refine g_aload_n (np := 39) B.1 dX2_valueBySearch_38 rfl rfl ?_
    refine gf_YBlendFinder_64_7 (np := 42) B.1 dX2_valueBySearch_39 rfl ?_
    exact g_iret B (ty := .int) rfl rfl (Nat.le_of_ble_eq_true rfl) (Nat.le_of_ble_eq_true rfl) dX2_valueBySearch_42 ⟨_, rfl, h⟩
  · replace h := h.2 q
    refine g_iconst (np := 35) (v := (-1)) B.1 dX2_valueBySearch_34 (by decide) rfl ?_
    refine g_goto (tgt := 42) B.1 dX2_valueBySearch_35 (by decide) ?_
    exact g_iret B (ty := .int) rfl rfl (Nat.le_of_ble_eq_true rfl) (Nat.le_of_ble_eq_true rfl) dX2_valueBySearch_42 ⟨_, rfl, h⟩
