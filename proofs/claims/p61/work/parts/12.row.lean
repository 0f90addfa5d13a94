def wX7_size (k : Nat)  (s0 : Mem) (Q : Int32 → Mem → Prop) (E : String → Mem → Prop) : Prop := Q (rd s0 0 k 1) s0
set_option maxRecDepth 20000 in
set_option maxHeartbeats 4000000 in
theorem oX7_size {l : Launch} {x : Ctx} (hl : l.stackTraces = false) (k : Nat) (hk : k < 112)   (s0 : Mem) (Q : Int32 → Mem → Prop) (E : String → Mem → Prop) (h : wX7_size k  s0 Q E) : MetG l x yX7_size cX7_size 1 (some .int) 0 0 0 0 [.ref (xad x 0 k)] s0 (RI Q) E := by
  refine MetG.of hl (by decide) (Nat.le_of_ble_eq_true rfl) [some (.ref (xad x 0 k))] rfl (fun K B hx _ => ?_)
  subst hx
  unfold wX7_size at h
  refine g_aload_n (np := 1) B.1 dX7_size_0 rfl rfl ?_
  refine gf_YRow_21_0 (np := 4) B.1 k hk dX7_size_1 rfl ?_
  exact g_iret B (ty := .int) rfl rfl (Nat.le_of_ble_eq_true rfl) (Nat.le_of_ble_eq_true rfl) dX7_size_4 ⟨_, rfl, h⟩
def wX7_isFull (k : Nat)  (s0 : Mem) (Q : Int32 → Mem → Prop) (E : String → Mem → Prop) : Prop := ((rd s0 0 k 1 < nI (rowCap k) → Q 0 s0) ∧ (¬ rd s0 0 k 1 < nI (rowCap k) → Q 1 s0))
set_option maxRecDepth 20000 in
set_option maxHeartbeats 4000000 in
theorem oX7_isFull {l : Launch} {x : Ctx} (hl : l.stackTraces = false) (k : Nat) (hk : k < 112)   (s0 : Mem) (Q : Int32 → Mem → Prop) (E : String → Mem → Prop) (h : wX7_isFull k  s0 Q E) : MetG l x yX7_isFull cX7_isFull 1 (some .boolean) 0 0 0 0 [.ref (xad x 0 k)] s0 (RI Q) E := by
  refine MetG.of hl (by decide) (Nat.le_of_ble_eq_true rfl) [some (.ref (xad x 0 k))] rfl (fun K B hx _ => ?_)
  subst hx
  unfold wX7_isFull at h
  refine g_aload_n (np := 1) B.1 dX7_isFull_0 rfl rfl ?_
  refine gf_YRow_21_0 (np := 4) B.1 k hk dX7_isFull_1 rfl ?_
  refine g_aload_n (np := 5) B.1 dX7_isFull_4 rfl rfl ?_
  refine gf_YRow_15_0 (np := 8) B.1 k hk dX7_isFull_5 rfl ?_
  refine g_alen (np := 9) B.1 1 k hk rfl rfl (t0 := 0) rfl (v := nI (rowCap k)) rfl dX7_isFull_8 rfl ?_
  refine g_icmp_lt (np := 12) (tgt := 16) B.1 dX7_isFull_9 (by decide) rfl (fun q => ?_) (fun q => ?_)
  · replace h := h.1 q
    refine g_iconst (np := 17) (v := 0) B.1 dX7_isFull_16 (by decide) rfl ?_
    exact g_iret B (ty := .boolean) rfl (by decide) (Nat.le_of_ble_eq_true rfl) (Nat.le_of_ble_eq_true rfl) dX7_isFull_17 ⟨_, rfl, h⟩
  · replace h := h.2 q
    refine g_iconst (np := 13) (v := 1) B.1 dX7_isFull_12 (by decide) rfl ?_
    refine g_goto (tgt := 17) B.1 dX7_isFull_13 (by decide) ?_
    exact g_iret B (ty := .boolean) rfl (by decide) (Nat.le_of_ble_eq_true rfl) (Nat.le_of_ble_eq_true rfl) dX7_isFull_17 ⟨_, rfl, h⟩
def wX7_has (k : Nat) (a1 : Int32) (s0 : Mem) (Q : Int32 → Mem → Prop) (E : String → Mem → Prop) : Prop := ((a1 < 0 → Q 0 s0) ∧ (¬ a1 < 0 → ((rd s0 0 k 1 ≤ a1 → Q 0 s0) ∧ (¬ rd s0 0 k 1 ≤ a1 → Q 1 s0))))
set_option maxRecDepth 20000 in
set_option maxHeartbeats 4000000 in
theorem oX7_has {l : Launch} {x : Ctx} (hl : l.stackTraces = false) (k : Nat) (hk : k < 112) (a1 : Int32)  (s0 : Mem) (Q : Int32 → Mem → Prop) (E : String → Mem → Prop) (h : wX7_has k a1 s0 Q E) : MetG l x yX7_has cX7_has 2 (some .boolean) 0 0 0 0 [.ref (xad x 0 k), .int a1] s0 (RI Q) E := by
  refine MetG.of hl (by decide) (Nat.le_of_ble_eq_true rfl) [some (.ref (xad x 0 k)), some (.int a1)] rfl (fun K B hx _ => ?_)
  subst hx
  unfold wX7_has at h
  refine g_iload_n (np := 1) B.1 dX7_has_0 rfl rfl ?_
  refine g_if_lt (np := 4) (tgt := 16) B.1 dX7_has_1 (by decide) rfl (fun q => ?_) (fun q => ?_)
  · replace h := h.1 q
    refine g_iconst (np := 17) (v := 0) B.1 dX7_has_16 (by decide) rfl ?_
    exact g_iret B (ty := .boolean) rfl (by decide) (Nat.le_of_ble_eq_true rfl) (Nat.le_of_ble_eq_true rfl) dX7_has_17 ⟨_, rfl, h⟩
  · replace h := h.2 q
    refine g_iload_n (np := 5) B.1 dX7_has_4 rfl rfl ?_
    refine g_aload_n (np := 6) B.1 dX7_has_5 rfl rfl ?_
    refine gf_YRow_21_0 (np := 9) B.1 k hk dX7_has_6 rfl ?_
    refine g_icmp_ge (np := 12) (tgt := 16) B.1 dX7_has_9 (by decide) rfl (fun q => ?_) (fun q => ?_)
    · replace h := h.1 q
      refine g_iconst (np := 17) (v := 0) B.1 dX7_has_16 (by decide) rfl ?_
      exact g_iret B (ty := .boolean) rfl (by decide) (Nat.le_of_ble_eq_true rfl) (Nat.le_of_ble_eq_true rfl) dX7_has_17 ⟨_, rfl, h⟩
    · replace h := h.2 q
      refine g_iconst (np := 13) (v := 1) B.1 dX7_has_12 (by decide) rfl ?_
      refine g_goto (tgt := 17) B.1 dX7_has_13 (by decide) ?_
      exact g_iret B (ty := .boolean) rfl (by decide) (Nat.le_of_ble_eq_true rfl) (Nat.le_of_ble_eq_true rfl) dX7_has_17 ⟨_, rfl, h⟩
def wX7_hasPair (k : Nat) (a1 : Int32) (s0 : Mem) (Q : Int32 → Mem → Prop) (E : String → Mem → Prop) : Prop := ((a1 < 0 → Q 0 s0) ∧ (¬ a1 < 0 → (((rd s0 0 k 1) - 1 ≤ a1 → Q 0 s0) ∧ (¬ (rd s0 0 k 1) - 1 ≤ a1 → Q 1 s0))))
set_option maxRecDepth 20000 in
set_option maxHeartbeats 4000000 in
theorem oX7_hasPair {l : Launch} {x : Ctx} (hl : l.stackTraces = false) (k : Nat) (hk : k < 112) (a1 : Int32)  (s0 : Mem) (Q : Int32 → Mem → Prop) (E : String → Mem → Prop) (h : wX7_hasPair k a1 s0 Q E) : MetG l x yX7_hasPair cX7_hasPair 2 (some .boolean) 0 0 0 0 [.ref (xad x 0 k), .int a1] s0 (RI Q) E := by
  refine MetG.of hl (by decide) (Nat.le_of_ble_eq_true rfl) [some (.ref (xad x 0 k)), some (.int a1)] rfl (fun K B hx _ => ?_)
  subst hx
  unfold wX7_hasPair at h
  refine g_iload_n (np := 1) B.1 dX7_hasPair_0 rfl rfl ?_
  refine g_if_lt (np := 4) (tgt := 18) B.1 dX7_hasPair_1 (by decide) rfl (fun q => ?_) (fun q => ?_)
  · replace h := h.1 q
    refine g_iconst (np := 19) (v := 0) B.1 dX7_hasPair_18 (by decide) rfl ?_
    exact g_iret B (ty := .boolean) rfl (by decide) (Nat.le_of_ble_eq_true rfl) (Nat.le_of_ble_eq_true rfl) dX7_hasPair_19 ⟨_, rfl, h⟩
  · replace h := h.2 q
    refine g_iload_n (np := 5) B.1 dX7_hasPair_4 rfl rfl ?_
    refine g_aload_n (np := 6) B.1 dX7_hasPair_5 rfl rfl ?_
    refine gf_YRow_21_0 (np := 9) B.1 k hk dX7_hasPair_6 rfl ?_
    refine g_iconst (np := 10) (v := 1) B.1 dX7_hasPair_9 (by decide) rfl ?_
    refine g_isub (np := 11) B.1 dX7_hasPair_10 rfl ?_
    refine g_icmp_ge (np := 14) (tgt := 18) B.1 dX7_hasPair_11 (by decide) rfl (fun q => ?_) (fun q => ?_)
    · replace h := h.1 q
      refine g_iconst (np := 19) (v := 0) B.1 dX7_hasPair_18 (by decide) rfl ?_
      exact g_iret B (ty := .boolean) rfl (by decide) (Nat.le_of_ble_eq_true rfl) (Nat.le_of_ble_eq_true rfl) dX7_hasPair_19 ⟨_, rfl, h⟩
    · replace h := h.2 q
      refine g_iconst (np := 15) (v := 1) B.1 dX7_hasPair_14 (by decide) rfl ?_
      refine g_goto (tgt := 19) B.1 dX7_hasPair_15 (by decide) ?_
      exact g_iret B (ty := .boolean) rfl (by decide) (Nat.le_of_ble_eq_true rfl) (Nat.le_of_ble_eq_true rfl) dX7_hasPair_19 ⟨_, rfl, h⟩
def wX7_get (k : Nat) (a1 : Int32) (s0 : Mem) (Q : Int32 → Mem → Prop) (E : String → Mem → Prop) : Prop := ((a1 < 0 → Q 0 s0) ∧ (¬ a1 < 0 → ((rd s0 0 k 1 ≤ a1 → Q 0 s0) ∧ (¬ rd s0 0 k 1 ≤ a1 → vp_in a1 (rowCap k) ∧ Q (rd s0 1 k a1.toNatClampNeg) s0))))
set_option maxRecDepth 20000 in
set_option maxHeartbeats 4000000 in
theorem oX7_get {l : Launch} {x : Ctx} (hl : l.stackTraces = false) (k : Nat) (hk : k < 112) (a1 : Int32)  (s0 : Mem) (Q : Int32 → Mem → Prop) (E : String → Mem → Prop) (h : wX7_get k a1 s0 Q E) : MetG l x yX7_get cX7_get 2 (some .int) 0 0 0 0 [.ref (xad x 0 k), .int a1] s0 (RI Q) E := by
  refine MetG.of hl (by decide) (Nat.le_of_ble_eq_true rfl) [some (.ref (xad x 0 k)), some (.int a1)] rfl (fun K B hx _ => ?_)
  subst hx
  unfold wX7_get at h
  refine g_iload_n (np := 1) B.1 dX7_get_0 rfl rfl ?_
  refine g_if_lt (np := 4) (tgt := 21) B.1 dX7_get_1 (by decide) rfl (fun q => ?_) (fun q => ?_)
  · replace h := h.1 q
    refine g_iconst (np := 22) (v := 0) B.1 dX7_get_21 (by decide) rfl ?_
    exact g_iret B (ty := .int) rfl rfl (Nat.le_of_ble_eq_true rfl) (Nat.le_of_ble_eq_true rfl) dX7_get_22 ⟨_, rfl, h⟩
  · replace h := h.2 q
    refine g_iload_n (np := 5) B.1 dX7_get_4 rfl rfl ?_
    refine g_aload_n (np := 6) B.1 dX7_get_5 rfl rfl ?_
    refine gf_YRow_21_0 (np := 9) B.1 k hk dX7_get_6 rfl ?_
    refine g_icmp_ge (np := 12) (tgt := 21) B.1 dX7_get_9 (by decide) rfl (fun q => ?_) (fun q => ?_)
    · replace h := h.1 q
      refine g_iconst (np := 22) (v := 0) B.1 dX7_get_21 (by decide) rfl ?_
      exact g_iret B (ty := .int) rfl rfl (Nat.le_of_ble_eq_true rfl) (Nat.le_of_ble_eq_true rfl) dX7_get_22 ⟨_, rfl, h⟩
    · replace h := h.2 q
      refine g_aload_n (np := 13) B.1 dX7_get_12 rfl rfl ?_
      refine gf_YRow_15_0 (np := 16) B.1 k hk dX7_get_13 rfl ?_
      refine g_iload_n (np := 17) B.1 dX7_get_16 rfl rfl ?_
      refine g_iald (np := 18) B.1 1 k hk rfl rfl h.1 dX7_get_17 rfl ?_
      replace h := h.2
      refine g_goto (tgt := 22) B.1 dX7_get_18 (by decide) ?_
      exact g_iret B (ty := .int) rfl rfl (Nat.le_of_ble_eq_true rfl) (Nat.le_of_ble_eq_true rfl) dX7_get_22 ⟨_, rfl, h⟩
def wX7_put (k : Nat) (a1 : Int32) (a2 : Int32) (s0 : Mem) (Q : Mem → Prop) (E : String → Mem → Prop) : Prop := ((a1 < 0 → Q s0) ∧ (¬ a1 < 0 → ((rd s0 0 k 1 ≤ a1 → Q s0) ∧ (¬ rd s0 0 k 1 ≤ a1 → vp_in a1 (rowCap k) ∧ ∀ s1 : Mem, s1 = wr s0 1 k a1.toNatClampNeg a2 → Q s1))))
set_option maxRecDepth 20000 in
set_option maxHeartbeats 4000000 in
theorem oX7_put {l : Launch} {x : Ctx} (hl : l.stackTraces = false) (k : Nat) (hk : k < 112) (a1 : Int32) (a2 : Int32)  (s0 : Mem) (Q : Mem → Prop) (E : String → Mem → Prop) (h : wX7_put k a1 a2 s0 Q E) : MetG l x yX7_put cX7_put 3 none 0 0 0 0 [.ref (xad x 0 k), .int a1, .int a2] s0 (RV Q) E := by
  refine MetG.of hl (by decide) (Nat.le_of_ble_eq_true rfl) [some (.ref (xad x 0 k)), some (.int a1), some (.int a2)] rfl (fun K B hx _ => ?_)
  subst hx
  unfold wX7_put at h
  refine g_iload_n (np := 1) B.1 dX7_put_0 rfl rfl ?_
  refine g_if_lt (np := 4) (tgt := 19) B.1 dX7_put_1 (by decide) rfl (fun q => ?_) (fun q => ?_)
  · replace h := h.1 q
    exact g_vret B rfl (Nat.le_of_ble_eq_true rfl) (Nat.le_of_ble_eq_true rfl) dX7_put_19 ⟨rfl, h⟩
  · replace h := h.2 q
    refine g_iload_n (np := 5) B.1 dX7_put_4 rfl rfl ?_
    refine g_aload_n (np := 6) B.1 dX7_put_5 rfl rfl ?_
    refine gf_YRow_21_0 (np := 9) B.1 k hk dX7_put_6 rfl ?_
    refine g_icmp_ge (np := 12) (tgt := 19) B.1 dX7_put_9 (by decide) rfl (fun q => ?_) (fun q => ?_)
    · replace h := h.1 q
      exact g_vret B rfl (Nat.le_of_ble_eq_true rfl) (Nat.le_of_ble_eq_true rfl) dX7_put_19 ⟨rfl, h⟩
    · replace h := h.2 q
      refine g_aload_n (np := 13) B.1 dX7_put_12 rfl rfl ?_
      refine gf_YRow_15_0 (np := 16) B.1 k hk dX7_put_13 rfl ?_
      refine g_iload_n (np := 17) B.1 dX7_put_16 rfl rfl ?_
      refine g_iload_n (np := 18) B.1 dX7_put_17 rfl rfl ?_
      refine g_iast (np := 19) B.1 1 k hk rfl (fun _ _ => rfl) h.1 dX7_put_18 rfl ?_
      replace h := h.2
      refine g_mem (fun s1 es1 => ?_)
      replace h := h s1 es1
      exact g_vret B rfl (Nat.le_of_ble_eq_true rfl) (Nat.le_of_ble_eq_true rfl) dX7_put_19 ⟨rfl, h⟩
def wX7_add (k : Nat) (a1 : Int32) (s0 : Mem) (Q : Mem → Prop) (E : String → Mem → Prop) : Prop := ((nI (rowCap k) ≤ rd s0 0 k 1 → Q s0) ∧ (¬ nI (rowCap k) ≤ rd s0 0 k 1 → vp_in (rd s0 0 k 1) (rowCap k) ∧ ∀ s1 : Mem, s1 = wr s0 1 k (rd s0 0 k 1).toNatClampNeg a1 → ∀ s2 : Mem, s2 = wr s1 0 k 1 ((rd s1 0 k 1) + 1) → Q s2))
set_option maxRecDepth 20000 in
set_option maxHeartbeats 4000000 in
theorem oX7_add {l : Launch} {x : Ctx} (hl : l.stackTraces = false) (k : Nat) (hk : k < 112) (a1 : Int32)  (s0 : Mem) (Q : Mem → Prop) (E : String → Mem → Prop) (h : wX7_add k a1 s0 Q E) : MetG l x yX7_add cX7_add 2 none 0 0 0 0 [.ref (xad x 0 k), .int a1] s0 (RV Q) E := by
  refine MetG.of hl (by decide) (Nat.le_of_ble_eq_true rfl) [some (.ref (xad x 0 k)), some (.int a1)] rfl (fun K B hx _ => ?_)
  subst hx
  unfold wX7_add at h
  refine g_aload_n (np := 1) B.1 dX7_add_0 rfl rfl ?_
  refine gf_YRow_21_0 (np := 4) B.1 k hk dX7_add_1 rfl ?_
  refine g_aload_n (np := 5) B.1 dX7_add_4 rfl rfl ?_
  refine gf_YRow_15_0 (np := 8) B.1 k hk dX7_add_5 rfl ?_
  refine g_alen (np := 9) B.1 1 k hk rfl rfl (t0 := 0) rfl (v := nI (rowCap k)) rfl dX7_add_8 rfl ?_
  refine g_icmp_ge (np := 12) (tgt := 32) B.1 dX7_add_9 (by decide) rfl (fun q => ?_) (fun q => ?_)
  · replace h := h.1 q
    exact g_vret B rfl (Nat.le_of_ble_eq_true rfl) (Nat.le_of_ble_eq_true rfl) dX7_add_32 ⟨rfl, h⟩
  · replace h := h.2 q
    refine g_aload_n (np := 13) B.1 dX7_add_12 rfl rfl ?_
    refine gf_YRow_15_0 (np := 16) B.1 k hk dX7_add_13 rfl ?_
    refine g_aload_n (np := 17) B.1 dX7_add_16 rfl rfl ?_
    refine gf_YRow_21_0 (np := 20) B.1 k hk dX7_add_17 rfl ?_
    refine g_iload_n (np := 21) B.1 dX7_add_20 rfl rfl ?_
    refine g_iast (np := 22) B.1 1 k hk rfl (fun _ _ => rfl) h.1 dX7_add_21 rfl ?_
    replace h := h.2
    refine g_mem (fun s1 es1 => ?_)
    replace h := h s1 es1
    refine g_aload_n (np := 23) B.1 dX7_add_22 rfl rfl ?_
    refine g_dup (np := 24) B.1 dX7_add_23 rfl rfl ?_
    refine gf_YRow_21_0 (np := 27) B.1 k hk dX7_add_24 rfl ?_
    refine g_iconst (np := 28) (v := 1) B.1 dX7_add_27 (by decide) rfl ?_
    refine g_iadd (np := 29) B.1 dX7_add_28 rfl ?_
    refine gp_YRow_21_0 (np := 32) B.1 k hk dX7_add_29 rfl ?_
    refine g_mem (fun s2 es2 => ?_)
    replace h := h s2 es2
    exact g_vret B rfl (Nat.le_of_ble_eq_true rfl) (Nat.le_of_ble_eq_true rfl) dX7_add_32 ⟨rfl, h⟩
def wX7_removeAt_17 (k : Nat)  (Q : Mem → Prop) (E : String → Mem → Prop)  (X45 : Mem → Prop) : Nat → Int32 → Mem → Prop
  | 0, _, _ => False
  | n17 + 1, v2, s0 => ((rd s0 0 k 1 ≤ v2 → X45  s0) ∧ (¬ rd s0 0 k 1 ≤ v2 → vp_in v2 (rowCap k) ∧ vp_in (v2 - 1) (rowCap k) ∧ ∀ s2 : Mem, s2 = wr s0 1 k (v2 - 1).toNatClampNeg (rd s0 1 k v2.toNatClampNeg) → ∀ v2_3 : Int32, v2_3 = (v2 + 1) → wX7_removeAt_17 k  Q E X45 n17 v2_3 s2))
def wX7_removeAt (k : Nat) (a1 : Int32) (s0 : Mem) (Q : Mem → Prop) (E : String → Mem → Prop) : Prop := ((a1 < 0 → Q s0) ∧ (¬ a1 < 0 → ((a1 < rd s0 0 k 1 → ∀ v2_1 : Int32, v2_1 = (a1 + 1) → ∃ m6 : Nat, wX7_removeAt_17 k  Q E (fun (s4 : Mem) => ∀ s5 : Mem, s5 = wr s4 0 k 1 ((rd s4 0 k 1) - 1) → Q s5) m6 v2_1  s0) ∧ (¬ a1 < rd s0 0 k 1 → Q s0))))
set_option maxRecDepth 20000 in
set_option maxHeartbeats 4000000 in
theorem oX7_removeAt_17 {K : Fr} {Q : Mem → Prop} {E : String → Mem → Prop} (B : Bd K cX7_removeAt "YarnMill$Row" 3 none 0 0 0 0 (RV Q) E) (k : Nat)  (hk : k < 112) {X45 : Mem → Prop} {cells slots : Nat} (hX45 : ∀ (τ : Mem), X45  τ → Go K cells slots τ 45 [some (.ref (xad (fX K) 0 k)), none, none] ([])) (hc : cells ≤ 0) (hs : slots ≤ 0) : ∀ (n : Nat) (v2 : Int32) (s0 : Mem), wX7_removeAt_17 k  Q E X45 n v2 s0 → Go K cells slots s0 17 [some (.ref (xad (fX K) 0 k)), none, some (.int v2)] ([]) := by
  intro n
  induction n with
  | zero => intro v2 s0 h; exact absurd h (by simp [wX7_removeAt_17])
  | succ n ih =>
    intro v2 s0 h
    simp only [wX7_removeAt_17] at h
    refine g_iload_n (np := 18) B.1 dX7_removeAt_17 rfl rfl ?_
    refine g_aload_n (np := 19) B.1 dX7_removeAt_18 rfl rfl ?_
    refine gf_YRow_21_0 (np := 22) B.1 k hk dX7_removeAt_19 rfl ?_
    refine g_icmp_ge (np := 25) (tgt := 45) B.1 dX7_removeAt_22 (by decide) rfl (fun q => ?_) (fun q => ?_)
    · replace h := h.1 q
      refine Go.lle [some (.ref (xad (fX K) 0 k)), none, none] (by simp [lle]) ?_
      exact hX45  s0 h
    · replace h := h.2 q
      refine g_aload_n (np := 26) B.1 dX7_removeAt_25 rfl rfl ?_
      refine gf_YRow_15_0 (np := 29) B.1 k hk dX7_removeAt_26 rfl ?_
      refine g_iload_n (np := 30) B.1 dX7_removeAt_29 rfl rfl ?_
      refine g_iconst (np := 31) (v := 1) B.1 dX7_removeAt_30 (by decide) rfl ?_
      refine g_isub (np := 32) B.1 dX7_removeAt_31 rfl ?_
      refine g_aload_n (np := 33) B.1 dX7_removeAt_32 rfl rfl ?_
      refine gf_YRow_15_0 (np := 36) B.1 k hk dX7_removeAt_33 rfl ?_
      refine g_iload_n (np := 37) B.1 dX7_removeAt_36 rfl rfl ?_
      refine g_iald (np := 38) B.1 1 k hk rfl rfl h.1 dX7_removeAt_37 rfl ?_
      replace h := h.2
      refine g_iast (np := 39) B.1 1 k hk rfl (fun _ _ => rfl) h.1 dX7_removeAt_38 rfl ?_
      replace h := h.2
      refine g_mem (fun s2 es2 => ?_)
      replace h := h s2 es2
      obtain ⟨v2_3, ev2_3⟩ : ∃ y : Int32, y = v2 + 1 := ⟨_, rfl⟩
      replace h := h v2_3 ev2_3
      refine g_iinc (np := 42) (v := v2_3) (lv' := [some (.ref (xad (fX K) 0 k)), none, some (.int v2_3)]) B.1 dX7_removeAt_39 rfl (by rw [ev2_3]; rfl) (by decide) rfl rfl rfl ?_
      refine g_goto (tgt := 17) B.1 dX7_removeAt_42 (by decide) ?_
      refine Go.lle [some (.ref (xad (fX K) 0 k)), none, some (.int v2_3)] (by simp [lle]) ?_
      exact ih v2_3 s2 h
set_option maxRecDepth 20000 in
set_option maxHeartbeats 4000000 in
theorem oX7_removeAt {l : Launch} {x : Ctx} (hl : l.stackTraces = false) (k : Nat) (hk : k < 112) (a1 : Int32)  (s0 : Mem) (Q : Mem → Prop) (E : String → Mem → Prop) (h : wX7_removeAt k a1 s0 Q E) : MetG l x yX7_removeAt cX7_removeAt 3 none 0 0 0 0 [.ref (xad x 0 k), .int a1] s0 (RV Q) E := by
  refine MetG.of hl (by decide) (Nat.le_of_ble_eq_true rfl) [some (.ref (xad x 0 k)), some (.int a1), none] rfl (fun K B hx _ => ?_)
  subst hx
  unfold wX7_removeAt at h
  refine g_iload_n (np := 1) B.1 dX7_removeAt_0 rfl rfl ?_
  refine g_if_lt (np := 4) (tgt := 12) B.1 dX7_removeAt_1 (by decide) rfl (fun q => ?_) (fun q => ?_)
  · replace h := h.1 q
    exact g_vret B rfl (Nat.le_of_ble_eq_true rfl) (Nat.le_of_ble_eq_true rfl) dX7_removeAt_12 ⟨rfl, h⟩
  · replace h := h.2 q
    refine g_iload_n (np := 5) B.1 dX7_removeAt_4 rfl rfl ?_
    refine g_aload_n (np := 6) B.1 dX7_removeAt_5 rfl rfl ?_
    refine gf_YRow_21_0 (np := 9) B.1 k hk dX7_removeAt_6 rfl ?_
    refine g_icmp_lt (np := 12) (tgt := 13) B.1 dX7_removeAt_9 (by decide) rfl (fun q => ?_) (fun q => ?_)
    · replace h := h.1 q
      refine g_iload_n (np := 14) B.1 dX7_removeAt_13 rfl rfl ?_
      refine g_iconst (np := 15) (v := 1) B.1 dX7_removeAt_14 (by decide) rfl ?_
      refine g_iadd (np := 16) B.1 dX7_removeAt_15 rfl ?_
      refine g_topi (fun v2_1 ev2_1 => ?_)
      replace h := h v2_1 ev2_1
      refine g_istore_n (np := 17) (lv' := [some (.ref (xad (fX K) 0 k)), some (.int a1), some (.int v2_1)]) B.1 dX7_removeAt_16 (by decide) rfl rfl rfl ?_
      obtain ⟨m6, h⟩ := h
      refine Go.lle [some (.ref (xad (fX K) 0 k)), none, some (.int v2_1)] (by simp [lle]) ?_
      refine oX7_removeAt_17 B k  hk (fun s4 h => ?_) (Nat.le_of_ble_eq_true rfl) (Nat.le_of_ble_eq_true rfl) m6 v2_1  s0 h
      refine g_aload_n (np := 46) B.1 dX7_removeAt_45 rfl rfl ?_
      refine g_dup (np := 47) B.1 dX7_removeAt_46 rfl rfl ?_
      refine gf_YRow_21_0 (np := 50) B.1 k hk dX7_removeAt_47 rfl ?_
      refine g_iconst (np := 51) (v := 1) B.1 dX7_removeAt_50 (by decide) rfl ?_
      refine g_isub (np := 52) B.1 dX7_removeAt_51 rfl ?_
      refine gp_YRow_21_0 (np := 55) B.1 k hk dX7_removeAt_52 rfl ?_
      refine g_mem (fun s5 es5 => ?_)
      replace h := h s5 es5
      exact g_vret B rfl (Nat.le_of_ble_eq_true rfl) (Nat.le_of_ble_eq_true rfl) dX7_removeAt_55 ⟨rfl, h⟩
    · replace h := h.2 q
      exact g_vret B rfl (Nat.le_of_ble_eq_true rfl) (Nat.le_of_ble_eq_true rfl) dX7_removeAt_12 ⟨rfl, h⟩
def wX7_clear (k : Nat)  (s0 : Mem) (Q : Mem → Prop) (E : String → Mem → Prop) : Prop := ∀ s1 : Mem, s1 = wr s0 0 k 1 0 → Q s1
set_option maxRecDepth 20000 in
set_option maxHeartbeats 4000000 in
theorem oX7_clear {l : Launch} {x : Ctx} (hl : l.stackTraces = false) (k : Nat) (hk : k < 112)   (s0 : Mem) (Q : Mem → Prop) (E : String → Mem → Prop) (h : wX7_clear k  s0 Q E) : MetG l x yX7_clear cX7_clear 1 none 0 0 0 0 [.ref (xad x 0 k)] s0 (RV Q) E := by
  refine MetG.of hl (by decide) (Nat.le_of_ble_eq_true rfl) [some (.ref (xad x 0 k))] rfl (fun K B hx _ => ?_)
  subst hx
  unfold wX7_clear at h
  refine g_aload_n (np := 1) B.1 dX7_clear_0 rfl rfl ?_
  refine g_iconst (np := 2) (v := 0) B.1 dX7_clear_1 (by decide) rfl ?_
  refine gp_YRow_21_0 (np := 5) B.1 k hk dX7_clear_2 rfl ?_
  refine g_mem (fun s1 es1 => ?_)
  replace h := h s1 es1
  exact g_vret B rfl (Nat.le_of_ble_eq_true rfl) (Nat.le_of_ble_eq_true rfl) dX7_clear_5 ⟨rfl, h⟩
def wX7_copyFrom (k : Nat) (k2 : Nat)  (s0 : Mem) (Q : Mem → Prop) (E : String → Mem → Prop) : Prop := ∀ s1 : Mem, s1 = wr s0 0 k 1 (if (nI (rowCap k)) < (rd s0 0 k2 1) then (nI (rowCap k)) else (rd s0 0 k2 1)) → ((¬ rd s1 0 k 1 < 0) ∧ (rd s1 0 k 1).toNatClampNeg ≤ rowCap k2 ∧ (rd s1 0 k 1).toNatClampNeg ≤ rowCap k) ∧ ∀ s2 : Mem, s2 = cpm s1 1 k2 1 k 0 0 (rd s1 0 k 1).toNatClampNeg → Q s2
set_option maxRecDepth 20000 in
set_option maxHeartbeats 4000000 in
theorem oX7_copyFrom {l : Launch} {x : Ctx} (hl : l.stackTraces = false) (k : Nat) (k2 : Nat) (hk : k < 112) (hk2 : k2 < 112)   (s0 : Mem) (Q : Mem → Prop) (E : String → Mem → Prop) (h : wX7_copyFrom k k2  s0 Q E) : MetG l x yX7_copyFrom cX7_copyFrom 2 none 1 60 0 0 [.ref (xad x 0 k), .ref (xad x 0 k2)] s0 (RV Q) E := by
  refine MetG.of hl (by decide) (Nat.le_of_ble_eq_true rfl) [some (.ref (xad x 0 k)), some (.ref (xad x 0 k2))] rfl (fun K B hx _ => ?_)
  subst hx
  unfold wX7_copyFrom at h
  refine g_aload_n (np := 1) B.1 dX7_copyFrom_0 rfl rfl ?_
  refine g_aload_n (np := 2) B.1 dX7_copyFrom_1 rfl rfl ?_
  refine gf_YRow_21_0 (np := 5) B.1 k2 hk2 dX7_copyFrom_2 rfl ?_
  refine g_aload_n (np := 6) B.1 dX7_copyFrom_5 rfl rfl ?_
  refine gf_YRow_15_0 (np := 9) B.1 k hk dX7_copyFrom_6 rfl ?_
  refine g_alen (np := 10) B.1 1 k hk rfl rfl (t0 := 0) rfl (v := nI (rowCap k)) rfl dX7_copyFrom_9 rfl ?_
  refine g_mmin (np := 13) B.1 b_493 b_155 b_30 b_156 (by rw [B.2.1]; exact Nat.le_of_ble_eq_true rfl) (by rw [B.2.1]; exact Nat.le_of_ble_eq_true rfl) (by rw [B.2.1]; exact (Nat.le_of_ble_eq_true rfl)) (by rw [B.2.1]; exact (Nat.le_of_ble_eq_true rfl)) dX7_copyFrom_10 rfl ?_
  refine gp_YRow_21_0 (np := 16) B.1 k hk dX7_copyFrom_13 rfl ?_
  refine g_mem (fun s1 es1 => ?_)
  replace h := h s1 es1
  refine g_aload_n (np := 17) B.1 dX7_copyFrom_16 rfl rfl ?_
  refine gf_YRow_15_0 (np := 20) B.1 k2 hk2 dX7_copyFrom_17 rfl ?_
  refine g_iconst (np := 21) (v := 0) B.1 dX7_copyFrom_20 (by decide) rfl ?_
  refine g_aload_n (np := 22) B.1 dX7_copyFrom_21 rfl rfl ?_
  refine gf_YRow_15_0 (np := 25) B.1 k hk dX7_copyFrom_22 rfl ?_
  refine g_iconst (np := 26) (v := 0) B.1 dX7_copyFrom_25 (by decide) rfl ?_
  refine g_aload_n (np := 27) B.1 dX7_copyFrom_26 rfl rfl ?_
  refine gf_YRow_21_0 (np := 30) B.1 k hk dX7_copyFrom_27 rfl ?_
  refine g_copyi (np := 33) B.1 b_494 b_159 b_158 b_53 1 k2 k hk2 hk rfl rfl rfl (fun _ _ => rfl) (by decide) (by decide) h.1.1 (by have := h.1.2.1; simpa using this) (by have := h.1.2.2; simpa using this) (by rw [B.2.1]; exact Nat.le_of_ble_eq_true rfl) (by rw [B.2.1]; exact Nat.le_of_ble_eq_true (by decide +kernel)) dX7_copyFrom_30 rfl ?_
  replace h := h.2
  refine g_mem (fun s2 es2 => ?_)
  replace h := h s2 es2
  exact g_vret B rfl (Nat.le_of_ble_eq_true rfl) (Nat.le_of_ble_eq_true rfl) dX7_copyFrom_33 ⟨rfl, h⟩
def wX7_find_2 (k : Nat)  (Q : Int32 → Mem → Prop) (E : String → Mem → Prop)  (X20 : Int32 → Mem → Prop) (X28 : Mem → Prop) : Nat → Int32 → Int32 → Mem → Prop
  | 0, _, _, _ => False
  | n2 + 1, v1, v2, s0 => ((rd s0 0 k 1 ≤ v2 → X28  s0) ∧ (¬ rd s0 0 k 1 ≤ v2 → vp_in v2 (rowCap k) ∧ ((¬ rd s0 1 k v2.toNatClampNeg = v1 → ∀ v2_1 : Int32, v2_1 = (v2 + 1) → wX7_find_2 k  Q E X20 X28 n2 v1 v2_1 s0) ∧ (rd s0 1 k v2.toNatClampNeg = v1 → X20 v2 s0))))
def wX7_find (k : Nat) (a1 : Int32) (s0 : Mem) (Q : Int32 → Mem → Prop) (E : String → Mem → Prop) : Prop := ∃ m5 : Nat, wX7_find_2 k  Q E (fun (x2_2 : Int32) (s3 : Mem) => Q x2_2 s3) (fun (s4 : Mem) => Q ((-1)) s4) m5 a1 0  s0
set_option maxRecDepth 20000 in
set_option maxHeartbeats 4000000 in
theorem oX7_find_2 {K : Fr} {Q : Int32 → Mem → Prop} {E : String → Mem → Prop} (B : Bd K cX7_find "YarnMill$Row" 3 (some .int) 0 0 0 0 (RI Q) E) (k : Nat)  (hk : k < 112) {X20 : Int32 → Mem → Prop} {X28 : Mem → Prop} {cells slots : Nat} (hX20 : ∀ (y2 : Int32) (τ : Mem), X20 y2 τ → Go K cells slots τ 20 [none, none, some (.int y2)] ([])) (hX28 : ∀ (τ : Mem), X28  τ → Go K cells slots τ 28 [none, none, none] ([])) (hc : cells ≤ 0) (hs : slots ≤ 0) : ∀ (n : Nat) (v1 : Int32) (v2 : Int32) (s0 : Mem), wX7_find_2 k  Q E X20 X28 n v1 v2 s0 → Go K cells slots s0 2 [some (.ref (xad (fX K) 0 k)), some (.int v1), some (.int v2)] ([]) := by
  intro n
  induction n with
  | zero => intro v1 v2 s0 h; exact absurd h (by simp [wX7_find_2])
  | succ n ih =>
    intro v1 v2 s0 h
    simp only [wX7_find_2] at h
    refine g_iload_n (np := 3) B.1 dX7_find_2 rfl rfl ?_
    refine g_aload_n (np := 4) B.1 dX7_find_3 rfl rfl ?_
    refine gf_YRow_21_0 (np := 7) B.1 k hk dX7_find_4 rfl ?_
    refine g_icmp_ge (np := 10) (tgt := 28) B.1 dX7_find_7 (by decide) rfl (fun q => ?_) (fun q => ?_)
    · replace h := h.1 q
      refine Go.lle [none, none, none] (by simp [lle]) ?_
      exact hX28  s0 h
    · replace h := h.2 q
      refine g_aload_n (np := 11) B.1 dX7_find_10 rfl rfl ?_
      refine gf_YRow_15_0 (np := 14) B.1 k hk dX7_find_11 rfl ?_
      refine g_iload_n (np := 15) B.1 dX7_find_14 rfl rfl ?_
      refine g_iald (np := 16) B.1 1 k hk rfl rfl h.1 dX7_find_15 rfl ?_
      replace h := h.2
      refine g_iload_n (np := 17) B.1 dX7_find_16 rfl rfl ?_
      refine g_icmp_ne (np := 20) (tgt := 22) B.1 dX7_find_17 (by decide) rfl (fun q => ?_) (fun q => ?_)
      · replace h := h.1 q
        obtain ⟨v2_1, ev2_1⟩ : ∃ y : Int32, y = v2 + 1 := ⟨_, rfl⟩
        replace h := h v2_1 ev2_1
        refine g_iinc (np := 25) (v := v2_1) (lv' := [some (.ref (xad (fX K) 0 k)), some (.int v1), some (.int v2_1)]) B.1 dX7_find_22 rfl (by rw [ev2_1]; rfl) (by decide) rfl rfl rfl ?_
        refine g_goto (tgt := 2) B.1 dX7_find_25 (by decide) ?_
        refine Go.lle [some (.ref (xad (fX K) 0 k)), some (.int v1), some (.int v2_1)] (by simp [lle]) ?_
        exact ih v1 v2_1 s0 h
      · replace h := h.2 q
        refine Go.lle [none, none, some (.int v2)] (by simp [lle]) ?_
        exact hX20 v2 s0 h
set_option maxRecDepth 20000 in
set_option maxHeartbeats 4000000 in
theorem oX7_find {l : Launch} {x : Ctx} (hl : l.stackTraces = false) (k : Nat) (hk : k < 112) (a1 : Int32)  (s0 : Mem) (Q : Int32 → Mem → Prop) (E : String → Mem → Prop) (h : wX7_find k a1 s0 Q E) : MetG l x yX7_find cX7_find 3 (some .int) 0 0 0 0 [.ref (xad x 0 k), .int a1] s0 (RI Q) E := by
  refine MetG.of hl (by decide) (Nat.le_of_ble_eq_true rfl) [some (.ref (xad x 0 k)), some (.int a1), none] rfl (fun K B hx _ => ?_)
  subst hx
  unfold wX7_find at h
  refine g_iconst (np := 1) (v := 0) B.1 dX7_find_0 (by decide) rfl ?_
  refine g_istore_n (np := 2) (lv' := [some (.ref (xad (fX K) 0 k)), some (.int a1), some (.int 0)]) B.1 dX7_find_1 (by decide) rfl rfl rfl ?_
  obtain ⟨m5, h⟩ := h
  refine Go.lle [some (.ref (xad (fX K) 0 k)), some (.int a1), some (.int 0)] (by simp [lle]) ?_
  refine oX7_find_2 B k  hk (fun x2_2 s3 h => ?_) (fun s4 h => ?_) (Nat.le_of_ble_eq_true rfl) (Nat.le_of_ble_eq_true rfl) m5 a1 0  s0 h
  · refine g_iload_n (np := 21) B.1 dX7_find_20 rfl rfl ?_
    exact g_iret B (ty := .int) rfl rfl (Nat.le_of_ble_eq_true rfl) (Nat.le_of_ble_eq_true rfl) dX7_find_21 ⟨_, rfl, h⟩
  · refine g_iconst (np := 29) (v := (-1)) B.1 dX7_find_28 (by decide) rfl ?_
    exact g_iret B (ty := .int) rfl rfl (Nat.le_of_ble_eq_true rfl) (Nat.le_of_ble_eq_true rfl) dX7_find_29 ⟨_, rfl, h⟩
def wX7_sum_4 (k : Nat)  (Q : Int32 → Mem → Prop) (E : String → Mem → Prop)  (X27 : Int32 → Mem → Prop) : Nat → Int32 → Int32 → Mem → Prop
  | 0, _, _, _ => False
  | n4 + 1, v1, v2, s0 => ((rd s0 0 k 1 ≤ v2 → X27 v1 s0) ∧ (¬ rd s0 0 k 1 ≤ v2 → vp_in v2 (rowCap k) ∧ ∀ v1_1 : Int32, v1_1 = (v1 + (rd s0 1 k v2.toNatClampNeg)) → ∀ v2_2 : Int32, v2_2 = (v2 + 1) → wX7_sum_4 k  Q E X27 n4 v1_1 v2_2 s0))
def wX7_sum (k : Nat)  (s0 : Mem) (Q : Int32 → Mem → Prop) (E : String → Mem → Prop) : Prop := ∃ m5 : Nat, wX7_sum_4 k  Q E (fun (x1_3 : Int32) (s4 : Mem) => Q x1_3 s4) m5 0 0  s0
set_option maxRecDepth 20000 in
set_option maxHeartbeats 4000000 in
theorem oX7_sum_4 {K : Fr} {Q : Int32 → Mem → Prop} {E : String → Mem → Prop} (B : Bd K cX7_sum "YarnMill$Row" 3 (some .int) 0 0 0 0 (RI Q) E) (k : Nat)  (hk : k < 112) {X27 : Int32 → Mem → Prop} {cells slots : Nat} (hX27 : ∀ (y1 : Int32) (τ : Mem), X27 y1 τ → Go K cells slots τ 27 [none, some (.int y1), none] ([])) (hc : cells ≤ 0) (hs : slots ≤ 0) : ∀ (n : Nat) (v1 : Int32) (v2 : Int32) (s0 : Mem), wX7_sum_4 k  Q E X27 n v1 v2 s0 → Go K cells slots s0 4 [some (.ref (xad (fX K) 0 k)), some (.int v1), some (.int v2)] ([]) := by
  intro n
  induction n with
  | zero => intro v1 v2 s0 h; exact absurd h (by simp [wX7_sum_4])
  | succ n ih =>
    intro v1 v2 s0 h
    simp only [wX7_sum_4] at h
    refine g_iload_n (np := 5) B.1 dX7_sum_4 rfl rfl ?_
    refine g_aload_n (np := 6) B.1 dX7_sum_5 rfl rfl ?_
    refine gf_YRow_21_0 (np := 9) B.1 k hk dX7_sum_6 rfl ?_
    refine g_icmp_ge (np := 12) (tgt := 27) B.1 dX7_sum_9 (by decide) rfl (fun q => ?_) (fun q => ?_)
    · replace h := h.1 q
      refine Go.lle [none, some (.int v1), none] (by simp [lle]) ?_
      exact hX27 v1 s0 h
    · replace h := h.2 q
      refine g_iload_n (np := 13) B.1 dX7_sum_12 rfl rfl ?_
      refine g_aload_n (np := 14) B.1 dX7_sum_13 rfl rfl ?_
      refine gf_YRow_15_0 (np := 17) B.1 k hk dX7_sum_14 rfl ?_
      refine g_iload_n (np := 18) B.1 dX7_sum_17 rfl rfl ?_
      refine g_iald (np := 19) B.1 1 k hk rfl rfl h.1 dX7_sum_18 rfl ?_
      replace h := h.2
      refine g_iadd (np := 20) B.1 dX7_sum_19 rfl ?_
      refine g_topi (fun v1_1 ev1_1 => ?_)
      replace h := h v1_1 ev1_1
      refine g_istore_n (np := 21) (lv' := [some (.ref (xad (fX K) 0 k)), some (.int v1_1), some (.int v2)]) B.1 dX7_sum_20 (by decide) rfl rfl rfl ?_
      obtain ⟨v2_2, ev2_2⟩ : ∃ y : Int32, y = v2 + 1 := ⟨_, rfl⟩
      replace h := h v2_2 ev2_2
      refine g_iinc (np := 24) (v := v2_2) (lv' := [some (.ref (xad (fX K) 0 k)), some (.int v1_1), some (.int v2_2)]) B.1 dX7_sum_21 rfl (by rw [ev2_2]; rfl) (by decide) rfl rfl rfl ?_
      refine g_goto (tgt := 4) B.1 dX7_sum_24 (by decide) ?_
      refine Go.lle [some (.ref (xad (fX K) 0 k)), some (.int v1_1), some (.int v2_2)] (by simp [lle]) ?_
      exact ih v1_1 v2_2 s0 h
set_option maxRecDepth 20000 in
set_option maxHeartbeats 4000000 in
theorem oX7_sum {l : Launch} {x : Ctx} (hl : l.stackTraces = false) (k : Nat) (hk : k < 112)   (s0 : Mem) (Q : Int32 → Mem → Prop) (E : String → Mem → Prop) (h : wX7_sum k  s0 Q E) : MetG l x yX7_sum cX7_sum 3 (some .int) 0 0 0 0 [.ref (xad x 0 k)] s0 (RI Q) E := by
  refine MetG.of hl (by decide) (Nat.le_of_ble_eq_true rfl) [some (.ref (xad x 0 k)), none, none] rfl (fun K B hx _ => ?_)
  subst hx
  unfold wX7_sum at h
  refine g_iconst (np := 1) (v := 0) B.1 dX7_sum_0 (by decide) rfl ?_
  refine g_istore_n (np := 2) (lv' := [some (.ref (xad (fX K) 0 k)), some (.int 0), none]) B.1 dX7_sum_1 (by decide) rfl rfl rfl ?_
  refine g_iconst (np := 3) (v := 0) B.1 dX7_sum_2 (by decide) rfl ?_
  refine g_istore_n (np := 4) (lv' := [some (.ref (xad (fX K) 0 k)), some (.int 0), some (.int 0)]) B.1 dX7_sum_3 (by decide) rfl rfl rfl ?_
  obtain ⟨m5, h⟩ := h
  refine Go.lle [some (.ref (xad (fX K) 0 k)), some (.int 0), some (.int 0)] (by simp [lle]) ?_
  refine oX7_sum_4 B k  hk (fun x1_3 s4 h => ?_) (Nat.le_of_ble_eq_true rfl) (Nat.le_of_ble_eq_true rfl) m5 0 0  s0 h
  refine g_iload_n (np := 28) B.1 dX7_sum_27 rfl rfl ?_
  exact g_iret B (ty := .int) rfl rfl (Nat.le_of_ble_eq_true rfl) (Nat.le_of_ble_eq_true rfl) dX7_sum_28 ⟨_, rfl, h⟩
def wX7_positionOfLargest_4 (k : Nat)  (Q : Int32 → Mem → Prop) (E : String → Mem → Prop)  (X35 : Int32 → Mem → Prop) : Nat → Int32 → Int32 → Mem → Prop
  | 0, _, _, _ => False
  | n4 + 1, v1, v2, s0 => ((rd s0 0 k 1 ≤ v2 → X35 v1 s0) ∧ (¬ rd s0 0 k 1 ≤ v2 → vp_in v2 (rowCap k) ∧ vp_in v1 (rowCap k) ∧ ((rd s0 1 k v2.toNatClampNeg ≤ rd s0 1 k v1.toNatClampNeg → ∀ v2_1 : Int32, v2_1 = (v2 + 1) → wX7_positionOfLargest_4 k  Q E X35 n4 v1 v2_1 s0) ∧ (¬ rd s0 1 k v2.toNatClampNeg ≤ rd s0 1 k v1.toNatClampNeg → ∀ v2_2 : Int32, v2_2 = (v2 + 1) → wX7_positionOfLargest_4 k  Q E X35 n4 v2 v2_2 s0))))
def wX7_positionOfLargest (k : Nat)  (s0 : Mem) (Q : Int32 → Mem → Prop) (E : String → Mem → Prop) : Prop := ∃ m5 : Nat, wX7_positionOfLargest_4 k  Q E (fun (x1_3 : Int32) (s4 : Mem) => Q x1_3 s4) m5 0 1  s0
set_option maxRecDepth 20000 in
set_option maxHeartbeats 4000000 in
theorem oX7_positionOfLargest_4 {K : Fr} {Q : Int32 → Mem → Prop} {E : String → Mem → Prop} (B : Bd K cX7_positionOfLargest "YarnMill$Row" 3 (some .int) 0 0 0 0 (RI Q) E) (k : Nat)  (hk : k < 112) {X35 : Int32 → Mem → Prop} {cells slots : Nat} (hX35 : ∀ (y1 : Int32) (τ : Mem), X35 y1 τ → Go K cells slots τ 35 [none, some (.int y1), none] ([])) (hc : cells ≤ 0) (hs : slots ≤ 0) : ∀ (n : Nat) (v1 : Int32) (v2 : Int32) (s0 : Mem), wX7_positionOfLargest_4 k  Q E X35 n v1 v2 s0 → Go K cells slots s0 4 [some (.ref (xad (fX K) 0 k)), some (.int v1), some (.int v2)] ([]) := by
  intro n
  induction n with
  | zero => intro v1 v2 s0 h; exact absurd h (by simp [wX7_positionOfLargest_4])
  | succ n ih =>
    intro v1 v2 s0 h
    simp only [wX7_positionOfLargest_4] at h
    refine g_iload_n (np := 5) B.1 dX7_positionOfLargest_4 rfl rfl ?_
    refine g_aload_n (np := 6) B.1 dX7_positionOfLargest_5 rfl rfl ?_
    refine gf_YRow_21_0 (np := 9) B.1 k hk dX7_positionOfLargest_6 rfl ?_
    refine g_icmp_ge (np := 12) (tgt := 35) B.1 dX7_positionOfLargest_9 (by decide) rfl (fun q => ?_) (fun q => ?_)
    · replace h := h.1 q
      refine Go.lle [none, some (.int v1), none] (by simp [lle]) ?_
      exact hX35 v1 s0 h
    · replace h := h.2 q
      refine g_aload_n (np := 13) B.1 dX7_positionOfLargest_12 rfl rfl ?_
      refine gf_YRow_15_0 (np := 16) B.1 k hk dX7_positionOfLargest_13 rfl ?_
      refine g_iload_n (np := 17) B.1 dX7_positionOfLargest_16 rfl rfl ?_
      refine g_iald (np := 18) B.1 1 k hk rfl rfl h.1 dX7_positionOfLargest_17 rfl ?_
      replace h := h.2
      refine g_aload_n (np := 19) B.1 dX7_positionOfLargest_18 rfl rfl ?_
      refine gf_YRow_15_0 (np := 22) B.1 k hk dX7_positionOfLargest_19 rfl ?_
      refine g_iload_n (np := 23) B.1 dX7_positionOfLargest_22 rfl rfl ?_
      refine g_iald (np := 24) B.1 1 k hk rfl rfl h.1 dX7_positionOfLargest_23 rfl ?_
      replace h := h.2
      refine g_icmp_le (np := 27) (tgt := 29) B.1 dX7_positionOfLargest_24 (by decide) rfl (fun q => ?_) (fun q => ?_)
      · replace h := h.1 q
        obtain ⟨v2_1, ev2_1⟩ : ∃ y : Int32, y = v2 + 1 := ⟨_, rfl⟩
        replace h := h v2_1 ev2_1
        refine g_iinc (np := 32) (v := v2_1) (lv' := [some (.ref (xad (fX K) 0 k)), some (.int v1), some (.int v2_1)]) B.1 dX7_positionOfLargest_29 rfl (by rw [ev2_1]; rfl) (by decide) rfl rfl rfl ?_
        refine g_goto (tgt := 4) B.1 dX7_positionOfLargest_32 (by decide) ?_
        refine Go.lle [some (.ref (xad (fX K) 0 k)), some (.int v1), some (.int v2_1)] (by simp [lle]) ?_
        exact ih v1 v2_1 s0 h
      · replace h := h.2 q
        refine g_iload_n (np := 28) B.1 dX7_positionOfLargest_27 rfl rfl ?_
        refine g_istore_n (np := 29) (lv' := [some (.ref (xad (fX K) 0 k)), some (.int v2), some (.int v2)]) B.1 dX7_positionOfLargest_28 (by decide) rfl rfl rfl ?_
        obtain ⟨v2_2, ev2_2⟩ : ∃ y : Int32, y = v2 + 1 := ⟨_, rfl⟩
        replace h := h v2_2 ev2_2
        refine g_iinc (np := 32) (v := v2_2) (lv' := [some (.ref (xad (fX K) 0 k)), some (.int v2), some (.int v2_2)]) B.1 dX7_positionOfLargest_29 rfl (by rw [ev2_2]; rfl) (by decide) rfl rfl rfl ?_
        refine g_goto (tgt := 4) B.1 dX7_positionOfLargest_32 (by decide) ?_
        refine Go.lle [some (.ref (xad (fX K) 0 k)), some (.int v2), some (.int v2_2)] (by simp [lle]) ?_
        exact ih v2 v2_2 s0 h
set_option maxRecDepth 20000 in
set_option maxHeartbeats 4000000 in
theorem oX7_positionOfLargest {l : Launch} {x : Ctx} (hl : l.stackTraces = false) (k : Nat) (hk : k < 112)   (s0 : Mem) (Q : Int32 → Mem → Prop) (E : String → Mem → Prop) (h : wX7_positionOfLargest k  s0 Q E) : MetG l x yX7_positionOfLargest cX7_positionOfLargest 3 (some .int) 0 0 0 0 [.ref (xad x 0 k)] s0 (RI Q) E := by
  refine MetG.of hl (by decide) (Nat.le_of_ble_eq_true rfl) [some (.ref (xad x 0 k)), none, none] rfl (fun K B hx _ => ?_)
  subst hx
  unfold wX7_positionOfLargest at h
  refine g_iconst (np := 1) (v := 0) B.1 dX7_positionOfLargest_0 (by decide) rfl ?_
  refine g_istore_n (np := 2) (lv' := [some (.ref (xad (fX K) 0 k)), some (.int 0), none]) B.1 dX7_positionOfLargest_1 (by decide) rfl rfl rfl ?_
  refine g_iconst (np := 3) (v := 1) B.1 dX7_positionOfLargest_2 (by decide) rfl ?_
  refine g_istore_n (np := 4) (lv' := [some (.ref (xad (fX K) 0 k)), some (.int 0), some (.int 1)]) B.1 dX7_positionOfLargest_3 (by decide) rfl rfl rfl ?_
  obtain ⟨m5, h⟩ := h
  refine Go.lle [some (.ref (xad (fX K) 0 k)), some (.int 0), some (.int 1)] (by simp [lle]) ?_
  refine oX7_positionOfLargest_4 B k  hk (fun x1_3 s4 h => ?_) (Nat.le_of_ble_eq_true rfl) (Nat.le_of_ble_eq_true rfl) m5 0 1  s0 h
  refine g_iload_n (np := 36) B.1 dX7_positionOfLargest_35 rfl rfl ?_
  exact g_iret B (ty := .int) rfl rfl (Nat.le_of_ble_eq_true rfl) (Nat.le_of_ble_eq_true rfl) dX7_positionOfLargest_36 ⟨_, rfl, h⟩
def wX7_countAhead_11 (k : Nat)  (Q : Int32 → Mem → Prop) (E : String → Mem → Prop)  (X57 : Int32 → Mem → Prop) : Nat → Int32 → Int32 → Int32 → Int32 → Mem → Prop
  | 0, _, _, _, _, _ => False
  | n11 + 1, v1, v2, v3, v4, s0 => ((rd s0 0 k 1 ≤ v4 → X57 v3 s0) ∧ (¬ rd s0 0 k 1 ≤ v4 → vp_in v4 (rowCap k) ∧ ((rd s0 1 k v4.toNatClampNeg < v2 → ∀ v3_3 : Int32, v3_3 = (v3 + 1) → ∀ v4_4 : Int32, v4_4 = (v4 + 1) → wX7_countAhead_11 k  Q E X57 n11 v1 v2 v3_3 v4_4 s0) ∧ (¬ rd s0 1 k v4.toNatClampNeg < v2 → vp_in v4 (rowCap k) ∧ ((¬ rd s0 1 k v4.toNatClampNeg = v2 → ∀ v4_5 : Int32, v4_5 = (v4 + 1) → wX7_countAhead_11 k  Q E X57 n11 v1 v2 v3 v4_5 s0) ∧ (rd s0 1 k v4.toNatClampNeg = v2 → ((v1 ≤ v4 → ∀ v4_6 : Int32, v4_6 = (v4 + 1) → wX7_countAhead_11 k  Q E X57 n11 v1 v2 v3 v4_6 s0) ∧ (¬ v1 ≤ v4 → ∀ v3_7 : Int32, v3_7 = (v3 + 1) → ∀ v4_8 : Int32, v4_8 = (v4 + 1) → wX7_countAhead_11 k  Q E X57 n11 v1 v2 v3_7 v4_8 s0))))))))
def wX7_countAhead (k : Nat) (a1 : Int32) (s0 : Mem) (Q : Int32 → Mem → Prop) (E : String → Mem → Prop) : Prop := wX7_get k a1 s0 (fun (r1 : Int32) (s2 : Mem) => ∃ m11 : Nat, wX7_countAhead_11 k  Q E (fun (x3_9 : Int32) (s10 : Mem) => Q x3_9 s10) m11 a1 r1 0 0  s2) E
set_option maxRecDepth 20000 in
set_option maxHeartbeats 4000000 in
theorem oX7_countAhead_11 {K : Fr} {Q : Int32 → Mem → Prop} {E : String → Mem → Prop} (B : Bd K cX7_countAhead "YarnMill$Row" 5 (some .int) 1 21 0 0 (RI Q) E) (k : Nat)  (hk : k < 112) {X57 : Int32 → Mem → Prop} {cells slots : Nat} (hX57 : ∀ (y3 : Int32) (τ : Mem), X57 y3 τ → Go K cells slots τ 57 [none, none, none, some (.int y3), none] ([])) (hc : cells ≤ 0) (hs : slots ≤ 0) : ∀ (n : Nat) (v1 : Int32) (v2 : Int32) (v3 : Int32) (v4 : Int32) (s0 : Mem), wX7_countAhead_11 k  Q E X57 n v1 v2 v3 v4 s0 → Go K cells slots s0 11 [some (.ref (xad (fX K) 0 k)), some (.int v1), some (.int v2), some (.int v3), some (.int v4)] ([]) := by
  intro n
  induction n with
  | zero => intro v1 v2 v3 v4 s0 h; exact absurd h (by simp [wX7_countAhead_11])
  | succ n ih =>
    intro v1 v2 v3 v4 s0 h
    simp only [wX7_countAhead_11] at h
    refine g_iload (np := 13) B.1 dX7_countAhead_11 rfl rfl ?_
    refine g_aload_n (np := 14) B.1 dX7_countAhead_13 rfl rfl ?_
    refine gf_YRow_21_0 (np := 17) B.1 k hk dX7_countAhead_14 rfl ?_
    refine g_icmp_ge (np := 20) (tgt := 57) B.1 dX7_countAhead_17 (by decide) rfl (fun q => ?_) (fun q => ?_)
    · replace h := h.1 q
      refine Go.lle [none, none, none, some (.int v3), none] (by simp [lle]) ?_
      exact hX57 v3 s0 h
    · replace h := h.2 q
      refine g_aload_n (np := 21) B.1 dX7_countAhead_20 rfl rfl ?_
      refine gf_YRow_15_0 (np := 24) B.1 k hk dX7_countAhead_21 rfl ?_
      refine g_iload (np := 26) B.1 dX7_countAhead_24 rfl rfl ?_
      refine g_iald (np := 27) B.1 1 k hk rfl rfl h.1 dX7_countAhead_26 rfl ?_
      replace h := h.2
      refine g_iload_n (np := 28) B.1 dX7_countAhead_27 rfl rfl ?_
      refine g_icmp_lt (np := 31) (tgt := 48) B.1 dX7_countAhead_28 (by decide) rfl (fun q => ?_) (fun q => ?_)
      · replace h := h.1 q
        obtain ⟨v3_3, ev3_3⟩ : ∃ y : Int32, y = v3 + 1 := ⟨_, rfl⟩
        replace h := h v3_3 ev3_3
        refine g_iinc (np := 51) (v := v3_3) (lv' := [some (.ref (xad (fX K) 0 k)), some (.int v1), some (.int v2), some (.int v3_3), some (.int v4)]) B.1 dX7_countAhead_48 rfl (by rw [ev3_3]; rfl) (by decide) rfl rfl rfl ?_
        obtain ⟨v4_4, ev4_4⟩ : ∃ y : Int32, y = v4 + 1 := ⟨_, rfl⟩
        replace h := h v4_4 ev4_4
        refine g_iinc (np := 54) (v := v4_4) (lv' := [some (.ref (xad (fX K) 0 k)), some (.int v1), some (.int v2), some (.int v3_3), some (.int v4_4)]) B.1 dX7_countAhead_51 rfl (by rw [ev4_4]; rfl) (by decide) rfl rfl rfl ?_
        refine g_goto (tgt := 11) B.1 dX7_countAhead_54 (by decide) ?_
        refine Go.lle [some (.ref (xad (fX K) 0 k)), some (.int v1), some (.int v2), some (.int v3_3), some (.int v4_4)] (by simp [lle]) ?_
        exact ih v1 v2 v3_3 v4_4 s0 h
      · replace h := h.2 q
        refine g_aload_n (np := 32) B.1 dX7_countAhead_31 rfl rfl ?_
        refine gf_YRow_15_0 (np := 35) B.1 k hk dX7_countAhead_32 rfl ?_
        refine g_iload (np := 37) B.1 dX7_countAhead_35 rfl rfl ?_
        refine g_iald (np := 38) B.1 1 k hk rfl rfl h.1 dX7_countAhead_37 rfl ?_
        replace h := h.2
        refine g_iload_n (np := 39) B.1 dX7_countAhead_38 rfl rfl ?_
        refine g_icmp_ne (np := 42) (tgt := 51) B.1 dX7_countAhead_39 (by decide) rfl (fun q => ?_) (fun q => ?_)
        · replace h := h.1 q
          obtain ⟨v4_5, ev4_5⟩ : ∃ y : Int32, y = v4 + 1 := ⟨_, rfl⟩
          replace h := h v4_5 ev4_5
          refine g_iinc (np := 54) (v := v4_5) (lv' := [some (.ref (xad (fX K) 0 k)), some (.int v1), some (.int v2), some (.int v3), some (.int v4_5)]) B.1 dX7_countAhead_51 rfl (by rw [ev4_5]; rfl) (by decide) rfl rfl rfl ?_
          refine g_goto (tgt := 11) B.1 dX7_countAhead_54 (by decide) ?_
          refine Go.lle [some (.ref (xad (fX K) 0 k)), some (.int v1), some (.int v2), some (.int v3), some (.int v4_5)] (by simp [lle]) ?_
          exact ih v1 v2 v3 v4_5 s0 h
        · replace h := h.2 q
          refine g_iload (np := 44) B.1 dX7_countAhead_42 rfl rfl ?_
          refine g_iload_n (np := 45) B.1 dX7_countAhead_44 rfl rfl ?_
          refine g_icmp_ge (np := 48) (tgt := 51) B.1 dX7_countAhead_45 (by decide) rfl (fun q => ?_) (fun q => ?_)
          · replace h := h.1 q
            obtain ⟨v4_6, ev4_6⟩ : ∃ y : Int32, y = v4 + 1 := ⟨_, rfl⟩
            replace h := h v4_6 ev4_6
            refine g_iinc (np := 54) (v := v4_6) (lv' := [some (.ref (xad (fX K) 0 k)), some (.int v1), some (.int v2), some (.int v3), some (.int v4_6)]) B.1 dX7_countAhead_51 rfl (by rw [ev4_6]; rfl) (by decide) rfl rfl rfl ?_
            refine g_goto (tgt := 11) B.1 dX7_countAhead_54 (by decide) ?_
            refine Go.lle [some (.ref (xad (fX K) 0 k)), some (.int v1), some (.int v2), some (.int v3), some (.int v4_6)] (by simp [lle]) ?_
            exact ih v1 v2 v3 v4_6 s0 h
          · replace h := h.2 q
            obtain ⟨v3_7, ev3_7⟩ : ∃ y : Int32, y = v3 + 1 := ⟨_, rfl⟩
            replace h := h v3_7 ev3_7
            refine g_iinc (np := 51) (v := v3_7) (lv' := [some (.ref (xad (fX K) 0 k)), some (.int v1), some (.int v2), some (.int v3_7), some (.int v4)]) B.1 dX7_countAhead_48 rfl (by rw [ev3_7]; rfl) (by decide) rfl rfl rfl ?_
            obtain ⟨v4_8, ev4_8⟩ : ∃ y : Int32, y = v4 + 1 := ⟨_, rfl⟩
            replace h := h v4_8 ev4_8
            refine g_iinc (np := 54) (v := v4_8) (lv' := [some (.ref (xad (fX K) 0 k)), some (.int v1), some (.int v2), some (.int v3_7), some (.int v4_8)]) B.1 dX7_countAhead_51 rfl (by rw [ev4_8]; rfl) (by decide) rfl rfl rfl ?_
            refine g_goto (tgt := 11) B.1 dX7_countAhead_54 (by decide) ?_
            refine Go.lle [some (.ref (xad (fX K) 0 k)), some (.int v1), some (.int v2), some (.int v3_7), some (.int v4_8)] (by simp [lle]) ?_
            exact ih v1 v2 v3_7 v4_8 s0 h
set_option maxRecDepth 20000 in
set_option maxHeartbeats 4000000 in
theorem oX7_countAhead {l : Launch} {x : Ctx} (hl : l.stackTraces = false) (k : Nat) (hk : k < 112) (a1 : Int32)  (s0 : Mem) (Q : Int32 → Mem → Prop) (E : String → Mem → Prop) (h : wX7_countAhead k a1 s0 Q E) : MetG l x yX7_countAhead cX7_countAhead 5 (some .int) 1 21 0 0 [.ref (xad x 0 k), .int a1] s0 (RI Q) E := by
  refine MetG.of hl (by decide) (Nat.le_of_ble_eq_true rfl) [some (.ref (xad x 0 k)), some (.int a1), none, none, none] rfl (fun K B hx _ => ?_)
  subst hx
  unfold wX7_countAhead at h
  refine g_aload_n (np := 1) B.1 dX7_countAhead_0 rfl rfl ?_
  refine g_iload_n (np := 2) B.1 dX7_countAhead_1 rfl rfl ?_
  refine gc_YRow_38 (np := 5) B k hk (oX7_get B.1.tr k hk a1  _ _ _ h) (Nat.le_of_ble_eq_true rfl) (Nat.le_of_ble_eq_true rfl) (Nat.le_of_ble_eq_true rfl) (Nat.le_of_ble_eq_true rfl) (Nat.le_of_ble_eq_true rfl) dX7_countAhead_2 rfl (fun r1 s2 h => ?_)
  refine g_istore_n (np := 6) (lv' := [some (.ref (xad (fX K) 0 k)), some (.int a1), some (.int r1), none, none]) B.1 dX7_countAhead_5 (by decide) rfl rfl rfl ?_
  refine g_iconst (np := 7) (v := 0) B.1 dX7_countAhead_6 (by decide) rfl ?_
  refine g_istore_n (np := 8) (lv' := [some (.ref (xad (fX K) 0 k)), some (.int a1), some (.int r1), some (.int 0), none]) B.1 dX7_countAhead_7 (by decide) rfl rfl rfl ?_
  refine g_iconst (np := 9) (v := 0) B.1 dX7_countAhead_8 (by decide) rfl ?_
  refine g_istore (np := 11) (lv' := [some (.ref (xad (fX K) 0 k)), some (.int a1), some (.int r1), some (.int 0), some (.int 0)]) B.1 dX7_countAhead_9 (by decide) rfl rfl rfl ?_
  obtain ⟨m11, h⟩ := h
  refine Go.lle [some (.ref (xad (fX K) 0 k)), some (.int a1), some (.int r1), some (.int 0), some (.int 0)] (by simp [lle]) ?_
  refine oX7_countAhead_11 B k  hk (fun x3_9 s10 h => ?_) (Nat.le_of_ble_eq_true rfl) (Nat.le_of_ble_eq_true rfl) m11 a1 r1 0 0  s2 h
  refine g_iload_n (np := 58) B.1 dX7_countAhead_57 rfl rfl ?_
  exact g_iret B (ty := .int) rfl rfl (Nat.le_of_ble_eq_true rfl) (Nat.le_of_ble_eq_true rfl) dX7_countAhead_58 ⟨_, rfl, h⟩
def wX7_findRank_2 (k : Nat)  (Q : Int32 → Mem → Prop) (E : String → Mem → Prop)  (X19 : Int32 → Mem → Prop) (X27 : Mem → Prop) : Nat → Int32 → Int32 → Mem → Prop
  | 0, _, _, _ => False
  | n2 + 1, v1, v2, s0 => ((rd s0 0 k 1 ≤ v2 → X27  s0) ∧ (¬ rd s0 0 k 1 ≤ v2 → wX7_countAhead k v2 s0 (fun (r1 : Int32) (s2 : Mem) => ((¬ r1 = v1 → ∀ v2_3 : Int32, v2_3 = (v2 + 1) → wX7_findRank_2 k  Q E X19 X27 n2 v1 v2_3 s2) ∧ (r1 = v1 → X19 v2 s2))) E))
def wX7_findRank (k : Nat) (a1 : Int32) (s0 : Mem) (Q : Int32 → Mem → Prop) (E : String → Mem → Prop) : Prop := ∃ m7 : Nat, wX7_findRank_2 k  Q E (fun (x2_4 : Int32) (s5 : Mem) => Q x2_4 s5) (fun (s6 : Mem) => Q ((-1)) s6) m7 a1 0  s0
set_option maxRecDepth 20000 in
set_option maxHeartbeats 4000000 in
theorem oX7_findRank_2 {K : Fr} {Q : Int32 → Mem → Prop} {E : String → Mem → Prop} (B : Bd K cX7_findRank "YarnMill$Row" 3 (some .int) 2 45 0 0 (RI Q) E) (k : Nat)  (hk : k < 112) {X19 : Int32 → Mem → Prop} {X27 : Mem → Prop} {cells slots : Nat} (hX19 : ∀ (y2 : Int32) (τ : Mem), X19 y2 τ → Go K cells slots τ 19 [none, none, some (.int y2)] ([])) (hX27 : ∀ (τ : Mem), X27  τ → Go K cells slots τ 27 [none, none, none] ([])) (hc : cells ≤ 0) (hs : slots ≤ 0) : ∀ (n : Nat) (v1 : Int32) (v2 : Int32) (s0 : Mem), wX7_findRank_2 k  Q E X19 X27 n v1 v2 s0 → Go K cells slots s0 2 [some (.ref (xad (fX K) 0 k)), some (.int v1), some (.int v2)] ([]) := by
  intro n
  induction n with
  | zero => intro v1 v2 s0 h; exact absurd h (by simp [wX7_findRank_2])
  | succ n ih =>
    intro v1 v2 s0 h
    simp only [wX7_findRank_2] at h
    refine g_iload_n (np := 3) B.1 dX7_findRank_2 rfl rfl ?_
    refine g_aload_n (np := 4) B.1 dX7_findRank_3 rfl rfl ?_
    refine gf_YRow_21_0 (np := 7) B.1 k hk dX7_findRank_4 rfl ?_
    refine g_icmp_ge (np := 10) (tgt := 27) B.1 dX7_findRank_7 (by decide) rfl (fun q => ?_) (fun q => ?_)
    · replace h := h.1 q
      refine Go.lle [none, none, none] (by simp [lle]) ?_
      exact hX27  s0 h
    · replace h := h.2 q
      refine g_aload_n (np := 11) B.1 dX7_findRank_10 rfl rfl ?_
      refine g_iload_n (np := 12) B.1 dX7_findRank_11 rfl rfl ?_
      refine gc_YRow_34 (np := 15) B k hk (oX7_countAhead B.1.tr k hk v2  _ _ _ h) (Nat.le_of_ble_eq_true rfl) (Nat.le_of_ble_eq_true rfl) (Nat.le_of_ble_eq_true rfl) hc hs dX7_findRank_12 rfl (fun r1 s2 h => ?_)
      refine g_iload_n (np := 16) B.1 dX7_findRank_15 rfl rfl ?_
      refine g_icmp_ne (np := 19) (tgt := 21) B.1 dX7_findRank_16 (by decide) rfl (fun q => ?_) (fun q => ?_)
      · replace h := h.1 q
        obtain ⟨v2_3, ev2_3⟩ : ∃ y : Int32, y = v2 + 1 := ⟨_, rfl⟩
        replace h := h v2_3 ev2_3
        refine g_iinc (np := 24) (v := v2_3) (lv' := [some (.ref (xad (fX K) 0 k)), some (.int v1), some (.int v2_3)]) B.1 dX7_findRank_21 rfl (by rw [ev2_3]; rfl) (by decide) rfl rfl rfl ?_
        refine g_goto (tgt := 2) B.1 dX7_findRank_24 (by decide) ?_
        refine Go.lle [some (.ref (xad (fX K) 0 k)), some (.int v1), some (.int v2_3)] (by simp [lle]) ?_
        exact ih v1 v2_3 s2 h
      · replace h := h.2 q
        refine Go.lle [none, none, some (.int v2)] (by simp [lle]) ?_
        exact hX19 v2 s2 h
set_option maxRecDepth 20000 in
set_option maxHeartbeats 4000000 in
theorem oX7_findRank {l : Launch} {x : Ctx} (hl : l.stackTraces = false) (k : Nat) (hk : k < 112) (a1 : Int32)  (s0 : Mem) (Q : Int32 → Mem → Prop) (E : String → Mem → Prop) (h : wX7_findRank k a1 s0 Q E) : MetG l x yX7_findRank cX7_findRank 3 (some .int) 2 45 0 0 [.ref (xad x 0 k), .int a1] s0 (RI Q) E := by
  refine MetG.of hl (by decide) (Nat.le_of_ble_eq_true rfl) [some (.ref (xad x 0 k)), some (.int a1), none] rfl (fun K B hx _ => ?_)
  subst hx
  unfold wX7_findRank at h
  refine g_iconst (np := 1) (v := 0) B.1 dX7_findRank_0 (by decide) rfl ?_
  refine g_istore_n (np := 2) (lv' := [some (.ref (xad (fX K) 0 k)), some (.int a1), some (.int 0)]) B.1 dX7_findRank_1 (by decide) rfl rfl rfl ?_
  obtain ⟨m7, h⟩ := h
  refine Go.lle [some (.ref (xad (fX K) 0 k)), some (.int a1), some (.int 0)] (by simp [lle]) ?_
  refine oX7_findRank_2 B k  hk (fun x2_4 s5 h => ?_) (fun s6 h => ?_) (Nat.le_of_ble_eq_true rfl) (Nat.le_of_ble_eq_true rfl) m7 a1 0  s0 h
  · refine g_iload_n (np := 20) B.1 dX7_findRank_19 rfl rfl ?_
    exact g_iret B (ty := .int) rfl rfl (Nat.le_of_ble_eq_true rfl) (Nat.le_of_ble_eq_true rfl) dX7_findRank_20 ⟨_, rfl, h⟩
  · refine g_iconst (np := 28) (v := (-1)) B.1 dX7_findRank_27 (by decide) rfl ?_
    exact g_iret B (ty := .int) rfl rfl (Nat.le_of_ble_eq_true rfl) (Nat.le_of_ble_eq_true rfl) dX7_findRank_28 ⟨_, rfl, h⟩
