def wX11_addUpSets_30   (Q : Mem → Prop) (E : String → Mem → Prop)  (X62 : Int32 → Mem → Prop) : Nat → Int32 → Int32 → Int32 → Int32 → Mem → Prop
  | 0, _, _, _, _, _ => False
  | n30 + 1, v2, v3, v4, v5, s0 => ((v4 ≤ v5 → X62 v2 s0) ∧ (¬ v4 ≤ v5 → vp_in v5 (iaLen 3) ∧ vp_in (v4 + v5) (iaLen 3) ∧ ∀ s6 : Mem, s6 = wr s0 10 3 (v4 + v5).toNatClampNeg ((rd s0 10 3 v5.toNatClampNeg) + v3) → ∀ v5_7 : Int32, v5_7 = (v5 + 1) → wX11_addUpSets_30   Q E X62 n30 v2 v3 v4 v5_7 s6))
def wX11_addUpSets_2   (Q : Mem → Prop) (E : String → Mem → Prop)  (X68 : Mem → Prop) : Nat → Int32 → Mem → Prop
  | 0, _, _ => False
  | n2 + 1, v2, s0 => wX7_size 5  s0 (fun (r1 : Int32) (s2 : Mem) => ((r1 ≤ v2 → X68  s2) ∧ (¬ r1 ≤ v2 → wX7_get 8 v2 s2 (fun (r3 : Int32) (s4 : Mem) => ∀ v4_5 : Int32, v4_5 = (1 <<< (v2 &&& 31)) → ∃ m11 : Nat, wX11_addUpSets_30   Q E (fun (x2_8 : Int32) (s9 : Mem) => ∀ v2_10 : Int32, v2_10 = (x2_8 + 1) → wX11_addUpSets_2   Q E X68 n2 v2_10 s9) m11 v2 r3 v4_5 0  s4) E))) E
def wX11_addUpSets   (s0 : Mem) (Q : Mem → Prop) (E : String → Mem → Prop) : Prop := ∃ m13 : Nat, wX11_addUpSets_2   Q E (fun (s12 : Mem) => Q s12) m13 0  s0
set_option maxRecDepth 20000 in
set_option maxHeartbeats 4000000 in
theorem oX11_addUpSets_30 {K : Fr} {Q : Mem → Prop} {E : String → Mem → Prop} (B : Bd K cX11_addUpSets "YarnMill$TimeFinder" 6 none 1 21 0 0 (RV Q) E)    {X62 : Int32 → Mem → Prop} {cells slots : Nat} (hX62 : ∀ (y2 : Int32) (τ : Mem), X62 y2 τ → Go K cells slots τ 62 [some (.ref (xad (fX K) 8 0)), some (.ref (xad (fX K) 3 0)), some (.int y2), none, none, none] ([])) (hc : cells ≤ 0) (hs : slots ≤ 0) : ∀ (n : Nat) (v2 : Int32) (v3 : Int32) (v4 : Int32) (v5 : Int32) (s0 : Mem), wX11_addUpSets_30   Q E X62 n v2 v3 v4 v5 s0 → Go K cells slots s0 30 [some (.ref (xad (fX K) 8 0)), some (.ref (xad (fX K) 3 0)), some (.int v2), some (.int v3), some (.int v4), some (.int v5)] ([]) := by
  intro n
  induction n with
  | zero => intro v2 v3 v4 v5 s0 h; exact absurd h (by simp [wX11_addUpSets_30])
  | succ n ih =>
    intro v2 v3 v4 v5 s0 h
    simp only [wX11_addUpSets_30] at h
    refine g_iload (np := 32) B.1 dX11_addUpSets_30 rfl rfl ?_
    refine g_iload (np := 34) B.1 dX11_addUpSets_32 rfl rfl ?_
    refine g_icmp_ge (np := 37) (tgt := 62) B.1 dX11_addUpSets_34 (by decide) rfl (fun q => ?_) (fun q => ?_)
    · replace h := h.1 q
      refine Go.lle [some (.ref (xad (fX K) 8 0)), some (.ref (xad (fX K) 3 0)), some (.int v2), none, none, none] (by simp [lle]) ?_
      exact hX62 v2 s0 h
    · replace h := h.2 q
      refine g_aload_n (np := 38) B.1 dX11_addUpSets_37 rfl rfl ?_
      refine gf_YTimeFinder_9_8 (np := 41) B.1 dX11_addUpSets_38 rfl ?_
      refine g_iload (np := 43) B.1 dX11_addUpSets_41 rfl rfl ?_
      refine g_iload (np := 45) B.1 dX11_addUpSets_43 rfl rfl ?_
      refine g_iadd (np := 46) B.1 dX11_addUpSets_45 rfl ?_
      refine g_aload_n (np := 47) B.1 dX11_addUpSets_46 rfl rfl ?_
      refine gf_YTimeFinder_9_8 (np := 50) B.1 dX11_addUpSets_47 rfl ?_
      refine g_iload (np := 52) B.1 dX11_addUpSets_50 rfl rfl ?_
      refine g_iald (np := 53) B.1 10 3 (by decide : (3 : Nat) < 8) rfl rfl h.1 dX11_addUpSets_52 rfl ?_
      replace h := h.2
      refine g_iload_n (np := 54) B.1 dX11_addUpSets_53 rfl rfl ?_
      refine g_iadd (np := 55) B.1 dX11_addUpSets_54 rfl ?_
      refine g_iast (np := 56) B.1 10 3 (by decide : (3 : Nat) < 8) rfl (fun _ _ => rfl) h.1 dX11_addUpSets_55 rfl ?_
      replace h := h.2
      refine g_mem (fun s6 es6 => ?_)
      replace h := h s6 es6
      obtain ⟨v5_7, ev5_7⟩ : ∃ y : Int32, y = v5 + 1 := ⟨_, rfl⟩
      replace h := h v5_7 ev5_7
      refine g_iinc (np := 59) (v := v5_7) (lv' := [some (.ref (xad (fX K) 8 0)), some (.ref (xad (fX K) 3 0)), some (.int v2), some (.int v3), some (.int v4), some (.int v5_7)]) B.1 dX11_addUpSets_56 rfl (by rw [ev5_7]; rfl) (by decide) rfl rfl rfl ?_
      refine g_goto (tgt := 30) B.1 dX11_addUpSets_59 (by decide) ?_
      refine Go.lle [some (.ref (xad (fX K) 8 0)), some (.ref (xad (fX K) 3 0)), some (.int v2), some (.int v3), some (.int v4), some (.int v5_7)] (by simp [lle]) ?_
      exact ih v2 v3 v4 v5_7 s6 h
set_option maxRecDepth 20000 in
set_option maxHeartbeats 4000000 in
theorem oX11_addUpSets_2 {K : Fr} {Q : Mem → Prop} {E : String → Mem → Prop} (B : Bd K cX11_addUpSets "YarnMill$TimeFinder" 6 none 1 21 0 0 (RV Q) E)    {X68 : Mem → Prop} {cells slots : Nat} (hX68 : ∀ (τ : Mem), X68  τ → Go K cells slots τ 68 [none, none, none, none, none, none] ([])) (hc : cells ≤ 0) (hs : slots ≤ 0) : ∀ (n : Nat) (v2 : Int32) (s0 : Mem), wX11_addUpSets_2   Q E X68 n v2 s0 → Go K cells slots s0 2 [some (.ref (xad (fX K) 8 0)), some (.ref (xad (fX K) 3 0)), some (.int v2), none, none, none] ([]) := by
  intro n
  induction n with
  | zero => intro v2 s0 h; exact absurd h (by simp [wX11_addUpSets_2])
  | succ n ih =>
    intro v2 s0 h
    simp only [wX11_addUpSets_2] at h
    refine g_iload_n (np := 3) B.1 dX11_addUpSets_2 rfl rfl ?_
    refine g_aload_n (np := 4) B.1 dX11_addUpSets_3 rfl rfl ?_
    refine gf_YTimeFinder_31_3 (np := 7) B.1 0 (by decide : (0 : Nat) < 11) dX11_addUpSets_4 rfl ?_
    refine gc_YTimeFinder_36 (np := 10) B 5 (by decide : (5 : Nat) < 112) (oX7_size B.1.tr 5 (by decide : (5 : Nat) < 112)   _ _ _ h) (Nat.le_of_ble_eq_true rfl) (Nat.le_of_ble_eq_true rfl) (Nat.le_of_ble_eq_true rfl) hc hs dX11_addUpSets_7 rfl (fun r1 s2 h => ?_)
    refine g_icmp_ge (np := 13) (tgt := 68) B.1 dX11_addUpSets_10 (by decide) rfl (fun q => ?_) (fun q => ?_)
    · replace h := h.1 q
      refine Go.lle [none, none, none, none, none, none] (by simp [lle]) ?_
      exact hX68  s2 h
    · replace h := h.2 q
      refine g_aload_n (np := 14) B.1 dX11_addUpSets_13 rfl rfl ?_
      refine gf_YTimeFinder_44_3 (np := 17) B.1 0 (by decide : (0 : Nat) < 11) dX11_addUpSets_14 rfl ?_
      refine g_iload_n (np := 18) B.1 dX11_addUpSets_17 rfl rfl ?_
      refine gc_YTimeFinder_47 (np := 21) B 8 (by decide : (8 : Nat) < 112) (oX7_get B.1.tr 8 (by decide : (8 : Nat) < 112) v2  _ _ _ h) (Nat.le_of_ble_eq_true rfl) (Nat.le_of_ble_eq_true rfl) (Nat.le_of_ble_eq_true rfl) hc hs dX11_addUpSets_18 rfl (fun r3 s4 h => ?_)
      refine g_istore_n (np := 22) (lv' := [some (.ref (xad (fX K) 8 0)), some (.ref (xad (fX K) 3 0)), some (.int v2), some (.int r3), none, none]) B.1 dX11_addUpSets_21 (by decide) rfl rfl rfl ?_
      refine g_iconst (np := 23) (v := 1) B.1 dX11_addUpSets_22 (by decide) rfl ?_
      refine g_iload_n (np := 24) B.1 dX11_addUpSets_23 rfl rfl ?_
      refine g_ishl (np := 25) B.1 dX11_addUpSets_24 rfl ?_
      refine g_topi (fun v4_5 ev4_5 => ?_)
      replace h := h v4_5 ev4_5
      refine g_istore (np := 27) (lv' := [some (.ref (xad (fX K) 8 0)), some (.ref (xad (fX K) 3 0)), some (.int v2), some (.int r3), some (.int v4_5), none]) B.1 dX11_addUpSets_25 (by decide) rfl rfl rfl ?_
      refine g_iconst (np := 28) (v := 0) B.1 dX11_addUpSets_27 (by decide) rfl ?_
      refine g_istore (np := 30) (lv' := [some (.ref (xad (fX K) 8 0)), some (.ref (xad (fX K) 3 0)), some (.int v2), some (.int r3), some (.int v4_5), some (.int 0)]) B.1 dX11_addUpSets_28 (by decide) rfl rfl rfl ?_
      obtain ⟨m11, h⟩ := h
      refine Go.lle [some (.ref (xad (fX K) 8 0)), some (.ref (xad (fX K) 3 0)), some (.int v2), some (.int r3), some (.int v4_5), some (.int 0)] (by simp [lle]) ?_
      refine oX11_addUpSets_30 B    (fun x2_8 s9 h => ?_) hc hs m11 v2 r3 v4_5 0  s4 h
      obtain ⟨v2_10, ev2_10⟩ : ∃ y : Int32, y = x2_8 + 1 := ⟨_, rfl⟩
      replace h := h v2_10 ev2_10
      refine g_iinc (np := 65) (v := v2_10) (lv' := [some (.ref (xad (fX K) 8 0)), some (.ref (xad (fX K) 3 0)), some (.int v2_10), none, none, none]) B.1 dX11_addUpSets_62 rfl (by rw [ev2_10]; rfl) (by decide) rfl rfl rfl ?_
      refine g_goto (tgt := 2) B.1 dX11_addUpSets_65 (by decide) ?_
      refine Go.lle [some (.ref (xad (fX K) 8 0)), some (.ref (xad (fX K) 3 0)), some (.int v2_10), none, none, none] (by simp [lle]) ?_
      exact ih v2_10 s9 h
set_option maxRecDepth 20000 in
set_option maxHeartbeats 4000000 in
theorem oX11_addUpSets {l : Launch} {x : Ctx} (hl : l.stackTraces = false)     (s0 : Mem) (Q : Mem → Prop) (E : String → Mem → Prop) (h : wX11_addUpSets   s0 Q E) : MetG l x yX11_addUpSets cX11_addUpSets 6 none 1 21 0 0 [.ref (xad x 8 0), .ref (xad x 3 0)] s0 (RV Q) E := by
  refine MetG.of hl (by decide) (Nat.le_of_ble_eq_true rfl) [some (.ref (xad x 8 0)), some (.ref (xad x 3 0)), none, none, none, none] rfl (fun K B hx _ => ?_)
  subst hx
  unfold wX11_addUpSets at h
  refine g_iconst (np := 1) (v := 0) B.1 dX11_addUpSets_0 (by decide) rfl ?_
  refine g_istore_n (np := 2) (lv' := [some (.ref (xad (fX K) 8 0)), some (.ref (xad (fX K) 3 0)), some (.int 0), none, none, none]) B.1 dX11_addUpSets_1 (by decide) rfl rfl rfl ?_
  obtain ⟨m13, h⟩ := h
  refine Go.lle [some (.ref (xad (fX K) 8 0)), some (.ref (xad (fX K) 3 0)), some (.int 0), none, none, none] (by simp [lle]) ?_
  refine oX11_addUpSets_2 B    (fun s12 h => ?_) (Nat.le_of_ble_eq_true rfl) (Nat.le_of_ble_eq_true rfl) m13 0  s0 h
  exact g_vret B rfl (Nat.le_of_ble_eq_true rfl) (Nat.le_of_ble_eq_true rfl) dX11_addUpSets_68 ⟨rfl, h⟩
def wX11_leastWithOneMore_9   (Q : Int32 → Mem → Prop) (E : String → Mem → Prop)  (X48 : Int32 → Mem → Prop) : Nat → Int32 → Int32 → Int32 → Mem → Prop
  | 0, _, _, _, _ => False
  | n9 + 1, v1, v2, v3, s0 => ((v3 ≤ 0 → X48 v2 s0) ∧ (¬ v3 ≤ 0 → ((¬ v3 &&& v1 = v3 → ∀ v3_2 : Int32, v3_2 = (v3 + (-1)) → wX11_leastWithOneMore_9   Q E X48 n9 v1 v2 v3_2 s0) ∧ (v3 &&& v1 = v3 → vp_in v3 (iaLen 3) ∧ vp_in (v1 - v3) (iaLen 4) ∧ ∀ v2_3 : Int32, v2_3 = (if (if (rd s0 10 3 v3.toNatClampNeg) < (rd s0 10 4 (v1 - v3).toNatClampNeg) then (rd s0 10 4 (v1 - v3).toNatClampNeg) else (rd s0 10 3 v3.toNatClampNeg)) < v2 then (if (rd s0 10 3 v3.toNatClampNeg) < (rd s0 10 4 (v1 - v3).toNatClampNeg) then (rd s0 10 4 (v1 - v3).toNatClampNeg) else (rd s0 10 3 v3.toNatClampNeg)) else v2) → ∀ v3_4 : Int32, v3_4 = (v3 + (-1)) → wX11_leastWithOneMore_9   Q E X48 n9 v1 v2_3 v3_4 s0))))
def wX11_leastWithOneMore  (a1 : Int32) (s0 : Mem) (Q : Int32 → Mem → Prop) (E : String → Mem → Prop) : Prop := vp_in a1 (iaLen 4) ∧ ∀ v2_1 : Int32, v2_1 = (rd s0 10 4 a1.toNatClampNeg) → ∃ m7 : Nat, wX11_leastWithOneMore_9   Q E (fun (x2_5 : Int32) (s6 : Mem) => Q x2_5 s6) m7 a1 v2_1 a1  s0
set_option maxRecDepth 20000 in
set_option maxHeartbeats 4000000 in
theorem oX11_leastWithOneMore_9 {K : Fr} {Q : Int32 → Mem → Prop} {E : String → Mem → Prop} (B : Bd K cX11_leastWithOneMore "YarnMill$TimeFinder" 4 (some .int) 1 14 0 0 (RI Q) E)    {X48 : Int32 → Mem → Prop} {cells slots : Nat} (hX48 : ∀ (y2 : Int32) (τ : Mem), X48 y2 τ → Go K cells slots τ 48 [none, none, some (.int y2), none] ([])) (hc : cells ≤ 0) (hs : slots ≤ 0) : ∀ (n : Nat) (v1 : Int32) (v2 : Int32) (v3 : Int32) (s0 : Mem), wX11_leastWithOneMore_9   Q E X48 n v1 v2 v3 s0 → Go K cells slots s0 9 [some (.ref (xad (fX K) 8 0)), some (.int v1), some (.int v2), some (.int v3)] ([]) := by
  intro n
  induction n with
  | zero => intro v1 v2 v3 s0 h; exact absurd h (by simp [wX11_leastWithOneMore_9])
  | succ n ih =>
    intro v1 v2 v3 s0 h
    simp only [wX11_leastWithOneMore_9] at h
    refine g_iload_n (np := 10) B.1 dX11_leastWithOneMore_9 rfl rfl ?_
    refine g_if_le (np := 13) (tgt := 48) B.1 dX11_leastWithOneMore_10 (by decide) rfl (fun q => ?_) (fun q => ?_)
    · replace h := h.1 q
      refine Go.lle [none, none, some (.int v2), none] (by simp [lle]) ?_
      exact hX48 v2 s0 h
    · replace h := h.2 q
      refine g_iload_n (np := 14) B.1 dX11_leastWithOneMore_13 rfl rfl ?_
      refine g_iload_n (np := 15) B.1 dX11_leastWithOneMore_14 rfl rfl ?_
      refine g_iand (np := 16) B.1 dX11_leastWithOneMore_15 rfl ?_
      refine g_iload_n (np := 17) B.1 dX11_leastWithOneMore_16 rfl rfl ?_
      refine g_icmp_ne (np := 20) (tgt := 42) B.1 dX11_leastWithOneMore_17 (by decide) rfl (fun q => ?_) (fun q => ?_)
      · replace h := h.1 q
        obtain ⟨v3_2, ev3_2⟩ : ∃ y : Int32, y = v3 + (-1) := ⟨_, rfl⟩
        replace h := h v3_2 ev3_2
        refine g_iinc (np := 45) (v := v3_2) (lv' := [some (.ref (xad (fX K) 8 0)), some (.int v1), some (.int v2), some (.int v3_2)]) B.1 dX11_leastWithOneMore_42 rfl (by rw [ev3_2]; rfl) (by decide) rfl rfl rfl ?_
        refine g_goto (tgt := 9) B.1 dX11_leastWithOneMore_45 (by decide) ?_
        refine Go.lle [some (.ref (xad (fX K) 8 0)), some (.int v1), some (.int v2), some (.int v3_2)] (by simp [lle]) ?_
        exact ih v1 v2 v3_2 s0 h
      · replace h := h.2 q
        refine g_iload_n (np := 21) B.1 dX11_leastWithOneMore_20 rfl rfl ?_
        refine g_aload_n (np := 22) B.1 dX11_leastWithOneMore_21 rfl rfl ?_
        refine gf_YTimeFinder_9_8 (np := 25) B.1 dX11_leastWithOneMore_22 rfl ?_
        refine g_iload_n (np := 26) B.1 dX11_leastWithOneMore_25 rfl rfl ?_
        refine g_iald (np := 27) B.1 10 3 (by decide : (3 : Nat) < 8) rfl rfl h.1 dX11_leastWithOneMore_26 rfl ?_
        replace h := h.2
        refine g_aload_n (np := 28) B.1 dX11_leastWithOneMore_27 rfl rfl ?_
        refine gf_YTimeFinder_15_8 (np := 31) B.1 dX11_leastWithOneMore_28 rfl ?_
        refine g_iload_n (np := 32) B.1 dX11_leastWithOneMore_31 rfl rfl ?_
        refine g_iload_n (np := 33) B.1 dX11_leastWithOneMore_32 rfl rfl ?_
        refine g_isub (np := 34) B.1 dX11_leastWithOneMore_33 rfl ?_
        refine g_iald (np := 35) B.1 10 4 (by decide : (4 : Nat) < 8) rfl rfl h.1 dX11_leastWithOneMore_34 rfl ?_
        replace h := h.2
        refine g_mmax (np := 38) B.1 b_1524 b_137 b_30 b_138 (by rw [B.2.1]; exact Nat.le_of_ble_eq_true rfl) (by rw [B.2.1]; exact Nat.le_of_ble_eq_true rfl) (by rw [B.2.1]; exact hc) (by rw [B.2.1]; exact hs) dX11_leastWithOneMore_35 rfl ?_
        refine g_mmin (np := 41) B.1 b_1525 b_155 b_30 b_156 (by rw [B.2.1]; exact Nat.le_of_ble_eq_true rfl) (by rw [B.2.1]; exact Nat.le_of_ble_eq_true rfl) (by rw [B.2.1]; exact hc) (by rw [B.2.1]; exact hs) dX11_leastWithOneMore_38 rfl ?_
        refine g_topi (fun v2_3 ev2_3 => ?_)
        replace h := h v2_3 ev2_3
        refine g_istore_n (np := 42) (lv' := [some (.ref (xad (fX K) 8 0)), some (.int v1), some (.int v2_3), some (.int v3)]) B.1 dX11_leastWithOneMore_41 (by decide) rfl rfl rfl ?_
        obtain ⟨v3_4, ev3_4⟩ : ∃ y : Int32, y = v3 + (-1) := ⟨_, rfl⟩
        replace h := h v3_4 ev3_4
        refine g_iinc (np := 45) (v := v3_4) (lv' := [some (.ref (xad (fX K) 8 0)), some (.int v1), some (.int v2_3), some (.int v3_4)]) B.1 dX11_leastWithOneMore_42 rfl (by rw [ev3_4]; rfl) (by decide) rfl rfl rfl ?_
        refine g_goto (tgt := 9) B.1 dX11_leastWithOneMore_45 (by decide) ?_
        refine Go.lle [some (.ref (xad (fX K) 8 0)), some (.int v1), some (.int v2_3), some (.int v3_4)] (by simp [lle]) ?_
        exact ih v1 v2_3 v3_4 s0 h
set_option maxRecDepth 20000 in
set_option maxHeartbeats 4000000 in
theorem oX11_leastWithOneMore {l : Launch} {x : Ctx} (hl : l.stackTraces = false)   (a1 : Int32)  (s0 : Mem) (Q : Int32 → Mem → Prop) (E : String → Mem → Prop) (h : wX11_leastWithOneMore  a1 s0 Q E) : MetG l x yX11_leastWithOneMore cX11_leastWithOneMore 4 (some .int) 1 14 0 0 [.ref (xad x 8 0), .int a1] s0 (RI Q) E := by
  refine MetG.of hl (by decide) (Nat.le_of_ble_eq_true rfl) [some (.ref (xad x 8 0)), some (.int a1), none, none] rfl (fun K B hx _ => ?_)
  subst hx
  unfold wX11_leastWithOneMore at h
  refine g_aload_n (np := 1) B.1 dX11_leastWithOneMore_0 rfl rfl ?_
  refine gf_YTimeFinder_15_8 (np := 4) B.1 dX11_leastWithOneMore_1 rfl ?_
  refine g_iload_n (np := 5) B.1 dX11_leastWithOneMore_4 rfl rfl ?_
  refine g_iald (np := 6) B.1 10 4 (by decide : (4 : Nat) < 8) rfl rfl h.1 dX11_leastWithOneMore_5 rfl ?_
  replace h := h.2
  refine g_topi (fun v2_1 ev2_1 => ?_)
  replace h := h v2_1 ev2_1
  refine g_istore_n (np := 7) (lv' := [some (.ref (xad (fX K) 8 0)), some (.int a1), some (.int v2_1), none]) B.1 dX11_leastWithOneMore_6 (by decide) rfl rfl rfl ?_
  refine g_iload_n (np := 8) B.1 dX11_leastWithOneMore_7 rfl rfl ?_
  refine g_istore_n (np := 9) (lv' := [some (.ref (xad (fX K) 8 0)), some (.int a1), some (.int v2_1), some (.int a1)]) B.1 dX11_leastWithOneMore_8 (by decide) rfl rfl rfl ?_
  obtain ⟨m7, h⟩ := h
  refine Go.lle [some (.ref (xad (fX K) 8 0)), some (.int a1), some (.int v2_1), some (.int a1)] (by simp [lle]) ?_
  refine oX11_leastWithOneMore_9 B    (fun x2_5 s6 h => ?_) (Nat.le_of_ble_eq_true rfl) (Nat.le_of_ble_eq_true rfl) m7 a1 v2_1 a1  s0 h
  refine g_iload_n (np := 49) B.1 dX11_leastWithOneMore_48 rfl rfl ?_
  exact g_iret B (ty := .int) rfl rfl (Nat.le_of_ble_eq_true rfl) (Nat.le_of_ble_eq_true rfl) dX11_leastWithOneMore_49 ⟨_, rfl, h⟩
def wX11_shortestBySets_20   (Q : Int32 → Mem → Prop) (E : String → Mem → Prop)  (X46 : Int32 → Int32 → Mem → Prop) : Nat → Int32 → Int32 → Int32 → Mem → Prop
  | 0, _, _, _, _ => False
  | n20 + 1, v2, v3, v4, s0 => ((v3 < v4 → X46 v2 v3 s0) ∧ (¬ v3 < v4 → vp_in v4 (iaLen 3) ∧ vp_in v4 (iaLen 4) ∧ ∀ s6 : Mem, s6 = wr s0 10 4 v4.toNatClampNeg (rd s0 10 3 v4.toNatClampNeg) → ∀ v4_7 : Int32, v4_7 = (v4 + 1) → wX11_shortestBySets_20   Q E X46 n20 v2 v3 v4_7 s6))
def wX11_shortestBySets_58   (Q : Int32 → Mem → Prop) (E : String → Mem → Prop)  (X82 : Int32 → Int32 → Int32 → Mem → Prop) : Nat → Int32 → Int32 → Int32 → Int32 → Mem → Prop
  | 0, _, _, _, _, _ => False
  | n58 + 1, v2, v3, v4, v5, s0 => ((v5 ≤ 0 → X82 v2 v3 v4 s0) ∧ (¬ v5 ≤ 0 → wX11_leastWithOneMore  v5 s0 (fun (r11 : Int32) (s12 : Mem) => vp_in v5 (iaLen 4) ∧ ∀ s13 : Mem, s13 = wr s12 10 4 v5.toNatClampNeg r11 → ∀ v5_14 : Int32, v5_14 = (v5 + (-1)) → wX11_shortestBySets_58   Q E X82 n58 v2 v3 v4 v5_14 s13) E))
def wX11_shortestBySets_49   (Q : Int32 → Mem → Prop) (E : String → Mem → Prop)  (X88 : Int32 → Mem → Prop) : Nat → Int32 → Int32 → Int32 → Mem → Prop
  | 0, _, _, _, _ => False
  | n49 + 1, v2, v3, v4, s0 => ((v2 < v4 → X88 v3 s0) ∧ (¬ v2 < v4 → ∃ m20 : Nat, wX11_shortestBySets_58   Q E (fun (x2_15 : Int32) (x3_16 : Int32) (x4_17 : Int32) (s18 : Mem) => ∀ v4_19 : Int32, v4_19 = (x4_17 + 1) → wX11_shortestBySets_49   Q E X88 n49 x2_15 x3_16 v4_19 s18) m20 v2 v3 v4 v3  s0))
def wX11_shortestBySets  (a2 : Int32) (s0 : Mem) (Q : Int32 → Mem → Prop) (E : String → Mem → Prop) : Prop := wX11_addUpSets   s0 (fun (s2 : Mem) => wX7_size 5  s2 (fun (r3 : Int32) (s4 : Mem) => ∀ v3_5 : Int32, v3_5 = ((1 <<< (r3 &&& 31)) - 1) → ∃ m24 : Nat, wX11_shortestBySets_20   Q E (fun (x2_8 : Int32) (x3_9 : Int32) (s10 : Mem) => ∃ m23 : Nat, wX11_shortestBySets_49   Q E (fun (x3_21 : Int32) (s22 : Mem) => vp_in x3_21 (iaLen 4) ∧ Q (rd s22 10 4 x3_21.toNatClampNeg) s22) m23 x2_8 x3_9 2  s10) m24 a2 v3_5 0  s4) E) E
set_option maxRecDepth 20000 in
set_option maxHeartbeats 4000000 in
theorem oX11_shortestBySets_20 {K : Fr} {Q : Int32 → Mem → Prop} {E : String → Mem → Prop} (B : Bd K cX11_shortestBySets "YarnMill$TimeFinder" 6 (some .int) 2 46 0 0 (RI Q) E)    {X46 : Int32 → Int32 → Mem → Prop} {cells slots : Nat} (hX46 : ∀ (y2 : Int32) (y3 : Int32) (τ : Mem), X46 y2 y3 τ → Go K cells slots τ 46 [some (.ref (xad (fX K) 8 0)), none, some (.int y2), some (.int y3), none, none] ([])) (hc : cells ≤ 0) (hs : slots ≤ 0) : ∀ (n : Nat) (v2 : Int32) (v3 : Int32) (v4 : Int32) (s0 : Mem), wX11_shortestBySets_20   Q E X46 n v2 v3 v4 s0 → Go K cells slots s0 20 [some (.ref (xad (fX K) 8 0)), none, some (.int v2), some (.int v3), some (.int v4), none] ([]) := by
  intro n
  induction n with
  | zero => intro v2 v3 v4 s0 h; exact absurd h (by simp [wX11_shortestBySets_20])
  | succ n ih =>
    intro v2 v3 v4 s0 h
    simp only [wX11_shortestBySets_20] at h
    refine g_iload (np := 22) B.1 dX11_shortestBySets_20 rfl rfl ?_
    refine g_iload_n (np := 23) B.1 dX11_shortestBySets_22 rfl rfl ?_
    refine g_icmp_gt (np := 26) (tgt := 46) B.1 dX11_shortestBySets_23 (by decide) rfl (fun q => ?_) (fun q => ?_)
    · replace h := h.1 q
      refine Go.lle [some (.ref (xad (fX K) 8 0)), none, some (.int v2), some (.int v3), none, none] (by simp [lle]) ?_
      exact hX46 v2 v3 s0 h
    · replace h := h.2 q
      refine g_aload_n (np := 27) B.1 dX11_shortestBySets_26 rfl rfl ?_
      refine gf_YTimeFinder_15_8 (np := 30) B.1 dX11_shortestBySets_27 rfl ?_
      refine g_iload (np := 32) B.1 dX11_shortestBySets_30 rfl rfl ?_
      refine g_aload_n (np := 33) B.1 dX11_shortestBySets_32 rfl rfl ?_
      refine gf_YTimeFinder_9_8 (np := 36) B.1 dX11_shortestBySets_33 rfl ?_
      refine g_iload (np := 38) B.1 dX11_shortestBySets_36 rfl rfl ?_
      refine g_iald (np := 39) B.1 10 3 (by decide : (3 : Nat) < 8) rfl rfl h.1 dX11_shortestBySets_38 rfl ?_
      replace h := h.2
      refine g_iast (np := 40) B.1 10 4 (by decide : (4 : Nat) < 8) rfl (fun _ _ => rfl) h.1 dX11_shortestBySets_39 rfl ?_
      replace h := h.2
      refine g_mem (fun s6 es6 => ?_)
      replace h := h s6 es6
      obtain ⟨v4_7, ev4_7⟩ : ∃ y : Int32, y = v4 + 1 := ⟨_, rfl⟩
      replace h := h v4_7 ev4_7
      refine g_iinc (np := 43) (v := v4_7) (lv' := [some (.ref (xad (fX K) 8 0)), none, some (.int v2), some (.int v3), some (.int v4_7), none]) B.1 dX11_shortestBySets_40 rfl (by rw [ev4_7]; rfl) (by decide) rfl rfl rfl ?_
      refine g_goto (tgt := 20) B.1 dX11_shortestBySets_43 (by decide) ?_
      refine Go.lle [some (.ref (xad (fX K) 8 0)), none, some (.int v2), some (.int v3), some (.int v4_7), none] (by simp [lle]) ?_
      exact ih v2 v3 v4_7 s6 h
set_option maxRecDepth 20000 in
set_option maxHeartbeats 4000000 in
theorem oX11_shortestBySets_58 {K : Fr} {Q : Int32 → Mem → Prop} {E : String → Mem → Prop} (B : Bd K cX11_shortestBySets "YarnMill$TimeFinder" 6 (some .int) 2 46 0 0 (RI Q) E)    {X82 : Int32 → Int32 → Int32 → Mem → Prop} {cells slots : Nat} (hX82 : ∀ (y2 : Int32) (y3 : Int32) (y4 : Int32) (τ : Mem), X82 y2 y3 y4 τ → Go K cells slots τ 82 [some (.ref (xad (fX K) 8 0)), none, some (.int y2), some (.int y3), some (.int y4), none] ([])) (hc : cells ≤ 0) (hs : slots ≤ 0) : ∀ (n : Nat) (v2 : Int32) (v3 : Int32) (v4 : Int32) (v5 : Int32) (s0 : Mem), wX11_shortestBySets_58   Q E X82 n v2 v3 v4 v5 s0 → Go K cells slots s0 58 [some (.ref (xad (fX K) 8 0)), none, some (.int v2), some (.int v3), some (.int v4), some (.int v5)] ([]) := by
  intro n
  induction n with
  | zero => intro v2 v3 v4 v5 s0 h; exact absurd h (by simp [wX11_shortestBySets_58])
  | succ n ih =>
    intro v2 v3 v4 v5 s0 h
    simp only [wX11_shortestBySets_58] at h
    refine g_iload (np := 60) B.1 dX11_shortestBySets_58 rfl rfl ?_
    refine g_if_le (np := 63) (tgt := 82) B.1 dX11_shortestBySets_60 (by decide) rfl (fun q => ?_) (fun q => ?_)
    · replace h := h.1 q
      refine Go.lle [some (.ref (xad (fX K) 8 0)), none, some (.int v2), some (.int v3), some (.int v4), none] (by simp [lle]) ?_
      exact hX82 v2 v3 v4 s0 h
    · replace h := h.2 q
      refine g_aload_n (np := 64) B.1 dX11_shortestBySets_63 rfl rfl ?_
      refine gf_YTimeFinder_15_8 (np := 67) B.1 dX11_shortestBySets_64 rfl ?_
      refine g_iload (np := 69) B.1 dX11_shortestBySets_67 rfl rfl ?_
      refine g_aload_n (np := 70) B.1 dX11_shortestBySets_69 rfl rfl ?_
      refine g_iload (np := 72) B.1 dX11_shortestBySets_70 rfl rfl ?_
      refine gc_YTimeFinder_40 (np := 75) B   (oX11_leastWithOneMore B.1.tr   v5  _ _ _ h) (Nat.le_of_ble_eq_true rfl) (Nat.le_of_ble_eq_true rfl) (Nat.le_of_ble_eq_true rfl) hc hs dX11_shortestBySets_72 rfl (fun r11 s12 h => ?_)
      refine g_iast (np := 76) B.1 10 4 (by decide : (4 : Nat) < 8) rfl (fun _ _ => rfl) h.1 dX11_shortestBySets_75 rfl ?_
      replace h := h.2
      refine g_mem (fun s13 es13 => ?_)
      replace h := h s13 es13
      obtain ⟨v5_14, ev5_14⟩ : ∃ y : Int32, y = v5 + (-1) := ⟨_, rfl⟩
      replace h := h v5_14 ev5_14
      refine g_iinc (np := 79) (v := v5_14) (lv' := [some (.ref (xad (fX K) 8 0)), none, some (.int v2), some (.int v3), some (.int v4), some (.int v5_14)]) B.1 dX11_shortestBySets_76 rfl (by rw [ev5_14]; rfl) (by decide) rfl rfl rfl ?_
      refine g_goto (tgt := 58) B.1 dX11_shortestBySets_79 (by decide) ?_
      refine Go.lle [some (.ref (xad (fX K) 8 0)), none, some (.int v2), some (.int v3), some (.int v4), some (.int v5_14)] (by simp [lle]) ?_
      exact ih v2 v3 v4 v5_14 s13 h
set_option maxRecDepth 20000 in
set_option maxHeartbeats 4000000 in
theorem oX11_shortestBySets_49 {K : Fr} {Q : Int32 → Mem → Prop} {E : String → Mem → Prop} (B : Bd K cX11_shortestBySets "YarnMill$TimeFinder" 6 (some .int) 2 46 0 0 (RI Q) E)    {X88 : Int32 → Mem → Prop} {cells slots : Nat} (hX88 : ∀ (y3 : Int32) (τ : Mem), X88 y3 τ → Go K cells slots τ 88 [some (.ref (xad (fX K) 8 0)), none, none, some (.int y3), none, none] ([])) (hc : cells ≤ 0) (hs : slots ≤ 0) : ∀ (n : Nat) (v2 : Int32) (v3 : Int32) (v4 : Int32) (s0 : Mem), wX11_shortestBySets_49   Q E X88 n v2 v3 v4 s0 → Go K cells slots s0 49 [some (.ref (xad (fX K) 8 0)), none, some (.int v2), some (.int v3), some (.int v4), none] ([]) := by
  intro n
  induction n with
  | zero => intro v2 v3 v4 s0 h; exact absurd h (by simp [wX11_shortestBySets_49])
  | succ n ih =>
    intro v2 v3 v4 s0 h
    simp only [wX11_shortestBySets_49] at h
    refine g_iload (np := 51) B.1 dX11_shortestBySets_49 rfl rfl ?_
    refine g_iload_n (np := 52) B.1 dX11_shortestBySets_51 rfl rfl ?_
    refine g_icmp_gt (np := 55) (tgt := 88) B.1 dX11_shortestBySets_52 (by decide) rfl (fun q => ?_) (fun q => ?_)
    · replace h := h.1 q
      refine Go.lle [some (.ref (xad (fX K) 8 0)), none, none, some (.int v3), none, none] (by simp [lle]) ?_
      exact hX88 v3 s0 h
    · replace h := h.2 q
      refine g_iload_n (np := 56) B.1 dX11_shortestBySets_55 rfl rfl ?_
      refine g_istore (np := 58) (lv' := [some (.ref (xad (fX K) 8 0)), none, some (.int v2), some (.int v3), some (.int v4), some (.int v3)]) B.1 dX11_shortestBySets_56 (by decide) rfl rfl rfl ?_
      obtain ⟨m20, h⟩ := h
      refine Go.lle [some (.ref (xad (fX K) 8 0)), none, some (.int v2), some (.int v3), some (.int v4), some (.int v3)] (by simp [lle]) ?_
      refine oX11_shortestBySets_58 B    (fun x2_15 x3_16 x4_17 s18 h => ?_) hc hs m20 v2 v3 v4 v3  s0 h
      obtain ⟨v4_19, ev4_19⟩ : ∃ y : Int32, y = x4_17 + 1 := ⟨_, rfl⟩
      replace h := h v4_19 ev4_19
      refine g_iinc (np := 85) (v := v4_19) (lv' := [some (.ref (xad (fX K) 8 0)), none, some (.int x2_15), some (.int x3_16), some (.int v4_19), none]) B.1 dX11_shortestBySets_82 rfl (by rw [ev4_19]; rfl) (by decide) rfl rfl rfl ?_
      refine g_goto (tgt := 49) B.1 dX11_shortestBySets_85 (by decide) ?_
      refine Go.lle [some (.ref (xad (fX K) 8 0)), none, some (.int x2_15), some (.int x3_16), some (.int v4_19), none] (by simp [lle]) ?_
      exact ih x2_15 x3_16 v4_19 s18 h
set_option maxRecDepth 20000 in
set_option maxHeartbeats 4000000 in
theorem oX11_shortestBySets {l : Launch} {x : Ctx} (hl : l.stackTraces = false)   (a2 : Int32)  (s0 : Mem) (Q : Int32 → Mem → Prop) (E : String → Mem → Prop) (h : wX11_shortestBySets  a2 s0 Q E) : MetG l x yX11_shortestBySets cX11_shortestBySets 6 (some .int) 2 46 0 0 [.ref (xad x 8 0), .ref (xad x 3 0), .int a2] s0 (RI Q) E := by
  refine MetG.of hl (by decide) (Nat.le_of_ble_eq_true rfl) [some (.ref (xad x 8 0)), some (.ref (xad x 3 0)), some (.int a2), none, none, none] rfl (fun K B hx _ => ?_)
  subst hx
  unfold wX11_shortestBySets at h
  refine g_aload_n (np := 1) B.1 dX11_shortestBySets_0 rfl rfl ?_
  refine g_aload_n (np := 2) B.1 dX11_shortestBySets_1 rfl rfl ?_
  refine gc_YTimeFinder_27 (np := 5) B   (oX11_addUpSets B.1.tr     _ _ _ h) (Nat.le_of_ble_eq_true rfl) (Nat.le_of_ble_eq_true rfl) (Nat.le_of_ble_eq_true rfl) (Nat.le_of_ble_eq_true rfl) (Nat.le_of_ble_eq_true rfl) dX11_shortestBySets_2 rfl (fun s2 h => ?_)
  refine g_iconst (np := 6) (v := 1) B.1 dX11_shortestBySets_5 (by decide) rfl ?_
  refine g_aload_n (np := 7) B.1 dX11_shortestBySets_6 rfl rfl ?_
  refine gf_YTimeFinder_31_3 (np := 10) B.1 0 (by decide : (0 : Nat) < 11) dX11_shortestBySets_7 rfl ?_
  refine gc_YTimeFinder_36 (np := 13) B 5 (by decide : (5 : Nat) < 112) (oX7_size B.1.tr 5 (by decide : (5 : Nat) < 112)   _ _ _ h) (Nat.le_of_ble_eq_true rfl) (Nat.le_of_ble_eq_true rfl) (Nat.le_of_ble_eq_true rfl) (Nat.le_of_ble_eq_true rfl) (Nat.le_of_ble_eq_true rfl) dX11_shortestBySets_10 rfl (fun r3 s4 h => ?_)
  refine g_ishl (np := 14) B.1 dX11_shortestBySets_13 rfl ?_
  refine g_iconst (np := 15) (v := 1) B.1 dX11_shortestBySets_14 (by decide) rfl ?_
  refine g_isub (np := 16) B.1 dX11_shortestBySets_15 rfl ?_
  refine g_topi (fun v3_5 ev3_5 => ?_)
  replace h := h v3_5 ev3_5
  refine g_istore_n (np := 17) (lv' := [some (.ref (xad (fX K) 8 0)), some (.ref (xad (fX K) 3 0)), some (.int a2), some (.int v3_5), none, none]) B.1 dX11_shortestBySets_16 (by decide) rfl rfl rfl ?_
  refine g_iconst (np := 18) (v := 0) B.1 dX11_shortestBySets_17 (by decide) rfl ?_
  refine g_istore (np := 20) (lv' := [some (.ref (xad (fX K) 8 0)), some (.ref (xad (fX K) 3 0)), some (.int a2), some (.int v3_5), some (.int 0), none]) B.1 dX11_shortestBySets_18 (by decide) rfl rfl rfl ?_
  obtain ⟨m24, h⟩ := h
  refine Go.lle [some (.ref (xad (fX K) 8 0)), none, some (.int a2), some (.int v3_5), some (.int 0), none] (by simp [lle]) ?_
  refine oX11_shortestBySets_20 B    (fun x2_8 x3_9 s10 h => ?_) (Nat.le_of_ble_eq_true rfl) (Nat.le_of_ble_eq_true rfl) m24 a2 v3_5 0  s4 h
  refine g_iconst (np := 47) (v := 2) B.1 dX11_shortestBySets_46 (by decide) rfl ?_
  refine g_istore (np := 49) (lv' := [some (.ref (xad (fX K) 8 0)), none, some (.int x2_8), some (.int x3_9), some (.int 2), none]) B.1 dX11_shortestBySets_47 (by decide) rfl rfl rfl ?_
  obtain ⟨m23, h⟩ := h
  refine Go.lle [some (.ref (xad (fX K) 8 0)), none, some (.int x2_8), some (.int x3_9), some (.int 2), none] (by simp [lle]) ?_
  refine oX11_shortestBySets_49 B    (fun x3_21 s22 h => ?_) (Nat.le_of_ble_eq_true rfl) (Nat.le_of_ble_eq_true rfl) m23 x2_8 x3_9 2  s10 h
  refine g_aload_n (np := 89) B.1 dX11_shortestBySets_88 rfl rfl ?_
  refine gf_YTimeFinder_15_8 (np := 92) B.1 dX11_shortestBySets_89 rfl ?_
  refine g_iload_n (np := 93) B.1 dX11_shortestBySets_92 rfl rfl ?_
  refine g_iald (np := 94) B.1 10 4 (by decide : (4 : Nat) < 8) rfl rfl h.1 dX11_shortestBySets_93 rfl ?_
  replace h := h.2
  exact g_iret B (ty := .int) rfl rfl (Nat.le_of_ble_eq_true rfl) (Nat.le_of_ble_eq_true rfl) dX11_shortestBySets_94 ⟨_, rfl, h⟩
def wX11_search_39   (Q : Mem → Prop) (E : String → Mem → Prop) (W : Int32 → Int32 → Mem → (Mem → Prop) → Prop) (X110 : Mem → Prop) : Nat → Int32 → Int32 → Int32 → Int32 → Mem → Prop
  | 0, _, _, _, _, _ => False
  | n39 + 1, v2, v3, v4, v5, s0 => wX7_size 111  s0 (fun (r5 : Int32) (s6 : Mem) => ((r5 ≤ v5 → X110  s6) ∧ (¬ r5 ≤ v5 → wX7_get 111 v5 s6 (fun (r7 : Int32) (s8 : Mem) => wX7_put 111 v5 (r7 + v4) s8 (fun (s10 : Mem) => W (v2 + 1) (if v3 < (r7 + v4) then (r7 + v4) else v3) s10 (fun (s12 : Mem) => wX7_put 111 v5 r7 s12 (fun (s14 : Mem) => ∀ v5_15 : Int32, v5_15 = (v5 + 1) → wX11_search_39   Q E W X110 n39 v2 v3 v4 v5_15 s14) E)) E) E))) E
def wX11_search : Nat → Int32 → Int32 → Mem → (Mem → Prop) → (String → Mem → Prop) → Prop
  | 0, _, _, _, _, _ => False
  | d + 1, a3, a4, s0, Q, E => ((a4 < rd s0 8 0 3 → wX7_size 5  s0 (fun (r1 : Int32) (s2 : Mem) => ((a3 < r1 → wX7_get 8 a3 s2 (fun (r3 : Int32) (s4 : Mem) => ∃ m17 : Nat, wX11_search_39   Q E (fun a3_ a4_ τ Q2 => wX11_search d a3_ a4_ τ Q2 E) (fun (s16 : Mem) => Q s16) m17 a3 a4 r3 0  s4) E) ∧ (¬ a3 < r1 → ∀ s18 : Mem, s18 = wr s2 8 0 3 a4 → Q s18))) E) ∧ (¬ a4 < rd s0 8 0 3 → Q s0))
set_option maxRecDepth 20000 in
set_option maxHeartbeats 4000000 in
theorem oX11_search_39 {d : Nat} {K : Fr} {Q : Mem → Prop} {E : String → Mem → Prop} (B : Bd K cX11_search "YarnMill$TimeFinder" 7 none (1 + (d + 1)) (22 + (d + 1) * 26) 0 0 (RV Q) E)    {W : Int32 → Int32 → Mem → (Mem → Prop) → Prop} (hW : ∀ (a3 : Int32) (a4 : Int32) (τ : Mem) (Q2 : Mem → Prop), W a3 a4 τ Q2 → MetG (fL K) (fX K) yX11_search cX11_search 7 none (1 + d) (22 + d * 26) 0 0 [.ref (xad (fX K) 8 0), .ref (xad (fX K) 3 0), .int a3, .int a4] τ (RV Q2) E) {X110 : Mem → Prop} {cells slots : Nat} (hX110 : ∀ (τ : Mem), X110  τ → Go K cells slots τ 110 [none, none, none, none, none, none, none] ([])) (hc : cells ≤ 0) (hs : slots ≤ 0) : ∀ (n : Nat) (v2 : Int32) (v3 : Int32) (v4 : Int32) (v5 : Int32) (s0 : Mem), wX11_search_39   Q E W X110 n v2 v3 v4 v5 s0 → Go K cells slots s0 39 [some (.ref (xad (fX K) 8 0)), some (.ref (xad (fX K) 3 0)), some (.int v2), some (.int v3), some (.int v4), some (.int v5), none] ([]) := by
  intro n
  induction n with
  | zero => intro v2 v3 v4 v5 s0 h; exact absurd h (by simp [wX11_search_39])
  | succ n ih =>
    intro v2 v3 v4 v5 s0 h
    simp only [wX11_search_39] at h
    refine g_iload (np := 41) B.1 dX11_search_39 rfl rfl ?_
    refine g_aload_n (np := 42) B.1 dX11_search_41 rfl rfl ?_
    refine gf_YTimeFinder_23_8 (np := 45) B.1 dX11_search_42 rfl ?_
    refine gc_YTimeFinder_36 (np := 48) B 111 (by decide : (111 : Nat) < 112) (oX7_size B.1.tr 111 (by decide : (111 : Nat) < 112)   _ _ _ h) (by omega) (by omega) (Nat.le_of_ble_eq_true rfl) hc hs dX11_search_45 rfl (fun r5 s6 h => ?_)
    refine g_icmp_ge (np := 51) (tgt := 110) B.1 dX11_search_48 (by decide) rfl (fun q => ?_) (fun q => ?_)
    · replace h := h.1 q
      refine Go.lle [none, none, none, none, none, none, none] (by simp [lle]) ?_
      exact hX110  s6 h
    · replace h := h.2 q
      refine g_aload_n (np := 52) B.1 dX11_search_51 rfl rfl ?_
      refine gf_YTimeFinder_23_8 (np := 55) B.1 dX11_search_52 rfl ?_
      refine g_iload (np := 57) B.1 dX11_search_55 rfl rfl ?_
      refine gc_YTimeFinder_47 (np := 60) B 111 (by decide : (111 : Nat) < 112) (oX7_get B.1.tr 111 (by decide : (111 : Nat) < 112) v5  _ _ _ h) (by omega) (by omega) (Nat.le_of_ble_eq_true rfl) hc hs dX11_search_57 rfl (fun r7 s8 h => ?_)
      refine g_istore (np := 62) (lv' := [some (.ref (xad (fX K) 8 0)), some (.ref (xad (fX K) 3 0)), some (.int v2), some (.int v3), some (.int v4), some (.int v5), some (.int r7)]) B.1 dX11_search_60 (by decide) rfl rfl rfl ?_
      refine g_aload_n (np := 63) B.1 dX11_search_62 rfl rfl ?_
      refine gf_YTimeFinder_23_8 (np := 66) B.1 dX11_search_63 rfl ?_
      refine g_iload (np := 68) B.1 dX11_search_66 rfl rfl ?_
      refine g_iload (np := 70) B.1 dX11_search_68 rfl rfl ?_
      refine g_iload (np := 72) B.1 dX11_search_70 rfl rfl ?_
      refine g_iadd (np := 73) B.1 dX11_search_72 rfl ?_
      refine gc_YTimeFinder_74 (np := 76) B 111 (by decide : (111 : Nat) < 112) (oX7_put B.1.tr 111 (by decide : (111 : Nat) < 112) v5 (r7 + v4)  _ _ _ h) (by omega) (by omega) (Nat.le_of_ble_eq_true rfl) hc hs dX11_search_73 rfl (fun s10 h => ?_)
      refine g_aload_n (np := 77) B.1 dX11_search_76 rfl rfl ?_
      refine g_aload_n (np := 78) B.1 dX11_search_77 rfl rfl ?_
      refine g_iload_n (np := 79) B.1 dX11_search_78 rfl rfl ?_
      refine g_iconst (np := 80) (v := 1) B.1 dX11_search_79 (by decide) rfl ?_
      refine g_iadd (np := 81) B.1 dX11_search_80 rfl ?_
      refine g_iload_n (np := 82) B.1 dX11_search_81 rfl rfl ?_
      refine g_iload (np := 84) B.1 dX11_search_82 rfl rfl ?_
      refine g_iload (np := 86) B.1 dX11_search_84 rfl rfl ?_
      refine g_iadd (np := 87) B.1 dX11_search_86 rfl ?_
      refine g_mmax (np := 90) B.1 b_1524 b_137 b_30 b_138 (by rw [B.2.1]; show 1 ≤ (1 + (d + 1)); omega) (by rw [B.2.1]; show _ ≤ (22 + (d + 1) * 26); simp [Value.category]; omega) (by rw [B.2.1]; exact hc) (by rw [B.2.1]; exact hs) dX11_search_87 rfl ?_
      refine gc_YTimeFinder_70 (np := 93) B   (hW (v2 + 1) (if v3 < (r7 + v4) then (r7 + v4) else v3) _ _ h) (by omega) (by omega) (Nat.le_of_ble_eq_true rfl) hc hs dX11_search_90 rfl (fun s12 h => ?_)
      refine g_aload_n (np := 94) B.1 dX11_search_93 rfl rfl ?_
      refine gf_YTimeFinder_23_8 (np := 97) B.1 dX11_search_94 rfl ?_
      refine g_iload (np := 99) B.1 dX11_search_97 rfl rfl ?_
      refine g_iload (np := 101) B.1 dX11_search_99 rfl rfl ?_
      refine gc_YTimeFinder_74 (np := 104) B 111 (by decide : (111 : Nat) < 112) (oX7_put B.1.tr 111 (by decide : (111 : Nat) < 112) v5 r7  _ _ _ h) (by omega) (by omega) (Nat.le_of_ble_eq_true rfl) hc hs dX11_search_101 rfl (fun s14 h => ?_)
      obtain ⟨v5_15, ev5_15⟩ : ∃ y : Int32, y = v5 + 1 := ⟨_, rfl⟩
      replace h := h v5_15 ev5_15
      refine g_iinc (np := 107) (v := v5_15) (lv' := [some (.ref (xad (fX K) 8 0)), some (.ref (xad (fX K) 3 0)), some (.int v2), some (.int v3), some (.int v4), some (.int v5_15), some (.int r7)]) B.1 dX11_search_104 rfl (by rw [ev5_15]; rfl) (by decide) rfl rfl rfl ?_
      refine g_goto (tgt := 39) B.1 dX11_search_107 (by decide) ?_
      refine Go.lle [some (.ref (xad (fX K) 8 0)), some (.ref (xad (fX K) 3 0)), some (.int v2), some (.int v3), some (.int v4), some (.int v5_15), none] (by simp [lle]) ?_
      exact ih v2 v3 v4 v5_15 s14 h
set_option maxRecDepth 20000 in
set_option maxHeartbeats 4000000 in
theorem oX11_search {l : Launch} {x : Ctx} (hl : l.stackTraces = false) : ∀ (d : Nat) (a3 : Int32) (a4 : Int32) (s0 : Mem) (Q : Mem → Prop) (E : String → Mem → Prop), wX11_search d a3 a4 s0 Q E → MetG l x yX11_search cX11_search 7 none (1 + d) (22 + d * 26) 0 0 [.ref (xad x 8 0), .ref (xad x 3 0), .int a3, .int a4] s0 (RV Q) E := by
  intro d
  induction d with
  | zero => intro a3 a4 s0 Q E h; exact absurd h (by simp [wX11_search])
  | succ d ih =>
    intro a3 a4 s0 Q E h
    simp only [wX11_search] at h
    refine MetG.of hl (by decide) (Nat.le_of_ble_eq_true rfl) [some (.ref (xad x 8 0)), some (.ref (xad x 3 0)), some (.int a3), some (.int a4), none, none, none] rfl (fun K B hx hl2 => ?_)
    subst hx
    subst hl2
    refine g_iload_n (np := 1) B.1 dX11_search_0 rfl rfl ?_
    refine g_aload_n (np := 2) B.1 dX11_search_1 rfl rfl ?_
    refine gf_YTimeFinder_66_8 (np := 5) B.1 dX11_search_2 rfl ?_
    refine g_icmp_lt (np := 8) (tgt := 9) B.1 dX11_search_5 (by decide) rfl (fun q => ?_) (fun q => ?_)
    · replace h := h.1 q
      refine g_iload_n (np := 10) B.1 dX11_search_9 rfl rfl ?_
      refine g_aload_n (np := 11) B.1 dX11_search_10 rfl rfl ?_
      refine gf_YTimeFinder_31_3 (np := 14) B.1 0 (by decide : (0 : Nat) < 11) dX11_search_11 rfl ?_
      refine gc_YTimeFinder_36 (np := 17) B 5 (by decide : (5 : Nat) < 112) (oX7_size B.1.tr 5 (by decide : (5 : Nat) < 112)   _ _ _ h) (by omega) (by omega) (Nat.le_of_ble_eq_true rfl) (Nat.le_of_ble_eq_true rfl) (Nat.le_of_ble_eq_true rfl) dX11_search_14 rfl (fun r1 s2 h => ?_)
      refine g_icmp_lt (np := 20) (tgt := 26) B.1 dX11_search_17 (by decide) rfl (fun q => ?_) (fun q => ?_)
      · replace h := h.1 q
        refine g_aload_n (np := 27) B.1 dX11_search_26 rfl rfl ?_
        refine gf_YTimeFinder_44_3 (np := 30) B.1 0 (by decide : (0 : Nat) < 11) dX11_search_27 rfl ?_
        refine g_iload_n (np := 31) B.1 dX11_search_30 rfl rfl ?_
        refine gc_YTimeFinder_47 (np := 34) B 8 (by decide : (8 : Nat) < 112) (oX7_get B.1.tr 8 (by decide : (8 : Nat) < 112) a3  _ _ _ h) (by omega) (by omega) (Nat.le_of_ble_eq_true rfl) (Nat.le_of_ble_eq_true rfl) (Nat.le_of_ble_eq_true rfl) dX11_search_31 rfl (fun r3 s4 h => ?_)
        refine g_istore (np := 36) (lv' := [some (.ref (xad (fX K) 8 0)), some (.ref (xad (fX K) 3 0)), some (.int a3), some (.int a4), some (.int r3), none, none]) B.1 dX11_search_34 (by decide) rfl rfl rfl ?_
        refine g_iconst (np := 37) (v := 0) B.1 dX11_search_36 (by decide) rfl ?_
        refine g_istore (np := 39) (lv' := [some (.ref (xad (fX K) 8 0)), some (.ref (xad (fX K) 3 0)), some (.int a3), some (.int a4), some (.int r3), some (.int 0), none]) B.1 dX11_search_37 (by decide) rfl rfl rfl ?_
        obtain ⟨m17, h⟩ := h
        refine Go.lle [some (.ref (xad (fX K) 8 0)), some (.ref (xad (fX K) 3 0)), some (.int a3), some (.int a4), some (.int r3), some (.int 0), none] (by simp [lle]) ?_
        refine oX11_search_39 B    (fun a3_ a4_ τ Q2 h => ih a3_ a4_ τ Q2 E h) (fun s16 h => ?_) (Nat.le_of_ble_eq_true rfl) (Nat.le_of_ble_eq_true rfl) m17 a3 a4 r3 0  s4 h
        exact g_vret B rfl (Nat.le_of_ble_eq_true rfl) (Nat.le_of_ble_eq_true rfl) dX11_search_110 ⟨rfl, h⟩
      · replace h := h.2 q
        refine g_aload_n (np := 21) B.1 dX11_search_20 rfl rfl ?_
        refine g_iload_n (np := 22) B.1 dX11_search_21 rfl rfl ?_
        refine gp_YTimeFinder_66_8 (np := 25) B.1 dX11_search_22 rfl ?_
        refine g_mem (fun s18 es18 => ?_)
        replace h := h s18 es18
        exact g_vret B rfl (Nat.le_of_ble_eq_true rfl) (Nat.le_of_ble_eq_true rfl) dX11_search_25 ⟨rfl, h⟩
    · replace h := h.2 q
      exact g_vret B rfl (Nat.le_of_ble_eq_true rfl) (Nat.le_of_ble_eq_true rfl) dX11_search_8 ⟨rfl, h⟩
def wX11_shortestBySearch_9   (Q : Int32 → Mem → Prop) (E : String → Mem → Prop)  (X28 : Mem → Prop) : Nat → Int32 → Int32 → Mem → Prop
  | 0, _, _, _ => False
  | n9 + 1, v2, v3, s0 => ((v2 ≤ v3 → X28  s0) ∧ (¬ v2 ≤ v3 → wX7_add 111 0 s0 (fun (s4 : Mem) => ∀ v3_5 : Int32, v3_5 = (v3 + 1) → wX11_shortestBySearch_9   Q E X28 n9 v2 v3_5 s4) E))
def wX11_shortestBySearch  (a2 : Int32) (s0 : Mem) (Q : Int32 → Mem → Prop) (E : String → Mem → Prop) : Prop := wX7_clear 111  s0 (fun (s2 : Mem) => ∃ m10 : Nat, wX11_shortestBySearch_9   Q E (fun (s6 : Mem) => ∀ s7 : Mem, s7 = wr s6 8 0 3 2147483647 → wX11_search 10 0 0 s7 (fun (s9 : Mem) => Q (rd s9 8 0 3) s9) E) m10 a2 0  s2) E
set_option maxRecDepth 20000 in
set_option maxHeartbeats 4000000 in
theorem oX11_shortestBySearch_9 {K : Fr} {Q : Int32 → Mem → Prop} {E : String → Mem → Prop} (B : Bd K cX11_shortestBySearch "YarnMill$TimeFinder" 4 (some .int) 12 308 0 0 (RI Q) E)    {X28 : Mem → Prop} {cells slots : Nat} (hX28 : ∀ (τ : Mem), X28  τ → Go K cells slots τ 28 [some (.ref (xad (fX K) 8 0)), some (.ref (xad (fX K) 3 0)), none, none] ([])) (hc : cells ≤ 0) (hs : slots ≤ 0) : ∀ (n : Nat) (v2 : Int32) (v3 : Int32) (s0 : Mem), wX11_shortestBySearch_9   Q E X28 n v2 v3 s0 → Go K cells slots s0 9 [some (.ref (xad (fX K) 8 0)), some (.ref (xad (fX K) 3 0)), some (.int v2), some (.int v3)] ([]) := by
  intro n
  induction n with
  | zero => intro v2 v3 s0 h; exact absurd h (by simp [wX11_shortestBySearch_9])
  | succ n ih =>
    intro v2 v3 s0 h
    simp only [wX11_shortestBySearch_9] at h
    refine g_iload_n (np := 10) B.1 dX11_shortestBySearch_9 rfl rfl ?_
    refine g_iload_n (np := 11) B.1 dX11_shortestBySearch_10 rfl rfl ?_
    refine g_icmp_ge (np := 14) (tgt := 28) B.1 dX11_shortestBySearch_11 (by decide) rfl (fun q => ?_) (fun q => ?_)
    · replace h := h.1 q
      refine Go.lle [some (.ref (xad (fX K) 8 0)), some (.ref (xad (fX K) 3 0)), none, none] (by simp [lle]) ?_
      exact hX28  s0 h
    · replace h := h.2 q
      refine g_aload_n (np := 15) B.1 dX11_shortestBySearch_14 rfl rfl ?_
      refine gf_YTimeFinder_23_8 (np := 18) B.1 dX11_shortestBySearch_15 rfl ?_
      refine g_iconst (np := 19) (v := 0) B.1 dX11_shortestBySearch_18 (by decide) rfl ?_
      refine gc_YTimeFinder_62 (np := 22) B 111 (by decide : (111 : Nat) < 112) (oX7_add B.1.tr 111 (by decide : (111 : Nat) < 112) 0  _ _ _ h) (Nat.le_of_ble_eq_true rfl) (Nat.le_of_ble_eq_true rfl) (Nat.le_of_ble_eq_true rfl) hc hs dX11_shortestBySearch_19 rfl (fun s4 h => ?_)
      obtain ⟨v3_5, ev3_5⟩ : ∃ y : Int32, y = v3 + 1 := ⟨_, rfl⟩
      replace h := h v3_5 ev3_5
      refine g_iinc (np := 25) (v := v3_5) (lv' := [some (.ref (xad (fX K) 8 0)), some (.ref (xad (fX K) 3 0)), some (.int v2), some (.int v3_5)]) B.1 dX11_shortestBySearch_22 rfl (by rw [ev3_5]; rfl) (by decide) rfl rfl rfl ?_
      refine g_goto (tgt := 9) B.1 dX11_shortestBySearch_25 (by decide) ?_
      refine Go.lle [some (.ref (xad (fX K) 8 0)), some (.ref (xad (fX K) 3 0)), some (.int v2), some (.int v3_5)] (by simp [lle]) ?_
      exact ih v2 v3_5 s4 h
set_option maxRecDepth 20000 in
set_option maxHeartbeats 4000000 in
theorem oX11_shortestBySearch {l : Launch} {x : Ctx} (hl : l.stackTraces = false)   (a2 : Int32)  (s0 : Mem) (Q : Int32 → Mem → Prop) (E : String → Mem → Prop) (h : wX11_shortestBySearch  a2 s0 Q E) : MetG l x yX11_shortestBySearch cX11_shortestBySearch 4 (some .int) 12 308 0 0 [.ref (xad x 8 0), .ref (xad x 3 0), .int a2] s0 (RI Q) E := by
  refine MetG.of hl (by decide) (Nat.le_of_ble_eq_true rfl) [some (.ref (xad x 8 0)), some (.ref (xad x 3 0)), some (.int a2), none] rfl (fun K B hx _ => ?_)
  subst hx
  unfold wX11_shortestBySearch at h
  refine g_aload_n (np := 1) B.1 dX11_shortestBySearch_0 rfl rfl ?_
  refine gf_YTimeFinder_23_8 (np := 4) B.1 dX11_shortestBySearch_1 rfl ?_
  refine gc_YTimeFinder_59 (np := 7) B 111 (by decide : (111 : Nat) < 112) (oX7_clear B.1.tr 111 (by decide : (111 : Nat) < 112)   _ _ _ h) (Nat.le_of_ble_eq_true rfl) (Nat.le_of_ble_eq_true rfl) (Nat.le_of_ble_eq_true rfl) (Nat.le_of_ble_eq_true rfl) (Nat.le_of_ble_eq_true rfl) dX11_shortestBySearch_4 rfl (fun s2 h => ?_)
  refine g_iconst (np := 8) (v := 0) B.1 dX11_shortestBySearch_7 (by decide) rfl ?_
  refine g_istore_n (np := 9) (lv' := [some (.ref (xad (fX K) 8 0)), some (.ref (xad (fX K) 3 0)), some (.int a2), some (.int 0)]) B.1 dX11_shortestBySearch_8 (by decide) rfl rfl rfl ?_
  obtain ⟨m10, h⟩ := h
  refine Go.lle [some (.ref (xad (fX K) 8 0)), some (.ref (xad (fX K) 3 0)), some (.int a2), some (.int 0)] (by simp [lle]) ?_
  refine oX11_shortestBySearch_9 B    (fun s6 h => ?_) (Nat.le_of_ble_eq_true rfl) (Nat.le_of_ble_eq_true rfl) m10 a2 0  s2 h
  refine g_aload_n (np := 29) B.1 dX11_shortestBySearch_28 rfl rfl ?_
  refine g_ldc (np := 31) (v := 2147483647) B.1 b_1536 dX11_shortestBySearch_29 rfl ?_
  refine gp_YTimeFinder_66_8 (np := 34) B.1 dX11_shortestBySearch_31 rfl ?_
  refine g_mem (fun s7 es7 => ?_)
  replace h := h s7 es7
  refine g_aload_n (np := 35) B.1 dX11_shortestBySearch_34 rfl rfl ?_
  refine g_aload_n (np := 36) B.1 dX11_shortestBySearch_35 rfl rfl ?_
  refine g_iconst (np := 37) (v := 0) B.1 dX11_shortestBySearch_36 (by decide) rfl ?_
  refine g_iconst (np := 38) (v := 0) B.1 dX11_shortestBySearch_37 (by decide) rfl ?_
  refine gc_YTimeFinder_70 (np := 41) B   (oX11_search B.1.tr 10 0 0 _ _ _ h) (Nat.le_of_ble_eq_true rfl) (Nat.le_of_ble_eq_true rfl) (Nat.le_of_ble_eq_true rfl) (Nat.le_of_ble_eq_true rfl) (Nat.le_of_ble_eq_true rfl) dX11_shortestBySearch_38 rfl (fun s9 h => ?_)
  refine g_aload_n (np := 42) B.1 dX11_shortestBySearch_41 rfl rfl ?_
  refine gf_YTimeFinder_66_8 (np := 45) B.1 dX11_shortestBySearch_42 rfl ?_
  exact g_iret B (ty := .int) rfl rfl (Nat.le_of_ble_eq_true rfl) (Nat.le_of_ble_eq_true rfl) dX11_shortestBySearch_45 ⟨_, rfl, h⟩
