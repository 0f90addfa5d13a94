def wJ5_append_3fe6f (k : Nat) (a1 : Int32) (s0 : Mem) (Q : Mem → Prop) (E : String → Mem → Prop) : Prop := wJ5_ensureCapacityInternal_d00df k ((rd s0 13 k 3) + 1) s0 (fun (s2 : Mem) => wJ5_isLatin1_aae02 k  s2 (fun (r3 : Int32) (s4 : Mem) => s4 = s2 ∧ ((r3 = 0 → False) ∧ (¬ r3 = 0 → wJ1_canEncode_fc78d  a1 s2 (fun (r5 : Int32) (s6 : Mem) => s6 = s2 ∧ ((r5 = 0 → False) ∧ (¬ r5 = 0 → ∀ s7 : Mem, s7 = wr s2 13 k 3 ((rd s2 13 k 3) + 1) → vp_in (rd s2 13 k 3) (s7.2.2.1 k) ∧ ∀ s8 : Mem, s8 = wr s7 16 k (rd s2 13 k 3).toNatClampNeg (vp_nar .byte a1.toInt8.toInt32) → Q s8))) E))) E) E
set_option maxRecDepth 20000 in
set_option maxHeartbeats 4000000 in
theorem oJ5_append_3fe6f {l : Launch} {x : Ctx} (hl : l.stackTraces = false) (k : Nat) (hk : k < oCnt x 13) (a1 : Int32)  (s0 : Mem) (Q : Mem → Prop) (E : String → Mem → Prop) (h : wJ5_append_3fe6f k a1 s0 Q E) : MetG l x yJ5_append_3fe6f cJ5_append_3fe6f 2 (some (.object "java/lang/AbstractStringBuilder")) 7 222 1 302 [.ref (xad x 13 k), .int a1] s0 (RR (xad x 13 k) Q) E := by
  refine MetG.of hl (by decide) (Nat.le_of_ble_eq_true rfl) [some (.ref (xad x 13 k)), some (.int a1)] rfl (fun K B hx _ => ?_)
  subst hx
  unfold wJ5_append_3fe6f at h
  refine g_aload_n (np := 1) B.1 dJ5_append_3fe6f_0 rfl rfl ?_
  refine g_aload_n (np := 2) B.1 dJ5_append_3fe6f_1 rfl rfl ?_
  refine gf_java_lang_AbstractStringBuilder_79_13 (np := 5) B.1 k hk dJ5_append_3fe6f_2 rfl ?_
  refine g_iconst (np := 6) (v := 1) B.1 dJ5_append_3fe6f_5 (by decide) rfl ?_
  refine g_iadd (np := 7) B.1 dJ5_append_3fe6f_6 rfl ?_
  refine gc_java_lang_AbstractStringBuilder_100 (np := 10) B k hk (oJ5_ensureCapacityInternal_d00df B.1.tr k hk ((rd s0 13 k 3) + 1)  _ _ _ h) (Nat.le_of_ble_eq_true rfl) (Nat.le_of_ble_eq_true rfl) (Nat.le_of_ble_eq_true rfl) (Nat.le_of_ble_eq_true rfl) (Nat.le_of_ble_eq_true rfl) dJ5_append_3fe6f_7 rfl (fun s2 h => ?_)
  refine g_aload_n (np := 11) B.1 dJ5_append_3fe6f_10 rfl rfl ?_
  refine gc_java_lang_AbstractStringBuilder_83 (np := 14) B k hk (oJ5_isLatin1_aae02 B.1.tr k hk   _ _ _ h) (Nat.le_of_ble_eq_true rfl) (Nat.le_of_ble_eq_true rfl) (Nat.le_of_ble_eq_true rfl) (Nat.le_of_ble_eq_true rfl) (Nat.le_of_ble_eq_true rfl) dJ5_append_3fe6f_11 rfl (fun r3 s4 h => ?_)
  obtain ⟨es4, h⟩ := h
  rw [es4]
  refine g_if_eq (np := 17) (tgt := 45) B.1 dJ5_append_3fe6f_14 (by decide) rfl (fun q => ?_) (fun q => ?_)
  · replace h := h.1 q
    exact h.elim
  · replace h := h.2 q
    refine g_iload_n (np := 18) B.1 dJ5_append_3fe6f_17 rfl rfl ?_
    refine gc_java_lang_AbstractStringBuilder_191 (np := 21) B   (oJ1_canEncode_fc78d B.1.tr   a1  _ _ _ h) (Nat.le_of_ble_eq_true rfl) (Nat.le_of_ble_eq_true rfl) (Nat.le_of_ble_eq_true rfl) (Nat.le_of_ble_eq_true rfl) (Nat.le_of_ble_eq_true rfl) dJ5_append_3fe6f_18 rfl (fun r5 s6 h => ?_)
    obtain ⟨es6, h⟩ := h
    rw [es6]
    refine g_if_eq (np := 24) (tgt := 45) B.1 dJ5_append_3fe6f_21 (by decide) rfl (fun q => ?_) (fun q => ?_)
    · replace h := h.1 q
      exact h.elim
    · replace h := h.2 q
      refine g_aload_n (np := 25) B.1 dJ5_append_3fe6f_24 rfl rfl ?_
      refine gf_java_lang_AbstractStringBuilder_15_13 (np := 28) B.1 k hk dJ5_append_3fe6f_25 rfl ?_
      refine g_aload_n (np := 29) B.1 dJ5_append_3fe6f_28 rfl rfl ?_
      refine g_dup (np := 30) B.1 dJ5_append_3fe6f_29 rfl rfl ?_
      refine gf_java_lang_AbstractStringBuilder_79_13 (np := 33) B.1 k hk dJ5_append_3fe6f_30 rfl ?_
      refine g_dup_x1 (np := 34) B.1 dJ5_append_3fe6f_33 rfl rfl rfl ?_
      refine g_iconst (np := 35) (v := 1) B.1 dJ5_append_3fe6f_34 (by decide) rfl ?_
      refine g_iadd (np := 36) B.1 dJ5_append_3fe6f_35 rfl ?_
      refine gp_java_lang_AbstractStringBuilder_79_13 (np := 39) B.1 k hk dJ5_append_3fe6f_36 rfl ?_
      refine g_mem (fun s7 es7 => ?_)
      replace h := h s7 es7
      refine Go.eq rfl rfl (lv' := [some (.ref (xad (fX K) 13 k)), some (.int a1)]) (by subst es7; rfl) (st' := .int (rd s2 13 k 3) :: .ref (s7.2.1 k) :: []) (by subst es7; rfl) ?_
      refine g_iload_n (np := 40) B.1 dJ5_append_3fe6f_39 rfl rfl ?_
      refine g_i2b (np := 41) B.1 dJ5_append_3fe6f_40 rfl rfl ?_
      refine g_bast (np := 42) B.1 k hk h.1 dJ5_append_3fe6f_41 rfl ?_
      replace h := h.2
      refine g_mem (fun s8 es8 => ?_)
      replace h := h s8 es8
      refine g_goto (tgt := 75) B.1 dJ5_append_3fe6f_42 (by decide) ?_
      refine g_aload_n (np := 76) B.1 dJ5_append_3fe6f_75 rfl rfl ?_
      exact g_aret B rfl (Or.inl ⟨_, rfl⟩) (Or.inr ⟨_, rfl⟩) (Nat.le_of_ble_eq_true rfl) (Nat.le_of_ble_eq_true rfl) dJ5_append_3fe6f_76 ⟨rfl, h⟩
def wJ5_append_c97b9 (k : Nat) (a1 : Int32) (s0 : Mem) (Q : Mem → Prop) (E : String → Mem → Prop) : Prop := ∀ v2_1 : Int32, v2_1 = (rd s0 13 k 3) → wJ6_stringSize_0f7a4  a1 s0 (fun (r2 : Int32) (s3 : Mem) => s3 = s0 ∧ ∀ v3_4 : Int32, v3_4 = (v2_1 + r2) → wJ5_ensureCapacityInternal_d00df k v3_4 s0 (fun (s6 : Mem) => wJ5_isLatin1_aae02 k  s6 (fun (r7 : Int32) (s8 : Mem) => s8 = s6 ∧ ((r7 = 0 → False) ∧ (¬ r7 = 0 → wJ6_getChars_ba4f3 k a1 v3_4 s6 (fun (r9 : Int32) (s10 : Mem) => ∀ s11 : Mem, s11 = wr s10 13 k 3 v3_4 → Q s11) E))) E) E) E
set_option maxRecDepth 20000 in
set_option maxHeartbeats 4000000 in
theorem oJ5_append_c97b9 {l : Launch} {x : Ctx} (hl : l.stackTraces = false) (k : Nat) (hk : k < oCnt x 13) (a1 : Int32)  (s0 : Mem) (Q : Mem → Prop) (E : String → Mem → Prop) (h : wJ5_append_c97b9 k a1 s0 Q E) : MetG l x yJ5_append_c97b9 cJ5_append_c97b9 4 (some (.object "java/lang/AbstractStringBuilder")) 7 222 1 302 [.ref (xad x 13 k), .int a1] s0 (RR (xad x 13 k) Q) E := by
  refine MetG.of hl (by decide) (Nat.le_of_ble_eq_true rfl) [some (.ref (xad x 13 k)), some (.int a1), none, none] rfl (fun K B hx _ => ?_)
  subst hx
  unfold wJ5_append_c97b9 at h
  refine g_aload_n (np := 1) B.1 dJ5_append_c97b9_0 rfl rfl ?_
  refine gf_java_lang_AbstractStringBuilder_79_13 (np := 4) B.1 k hk dJ5_append_c97b9_1 rfl ?_
  refine g_topi (fun v2_1 ev2_1 => ?_)
  replace h := h v2_1 ev2_1
  refine g_istore_n (np := 5) (lv' := [some (.ref (xad (fX K) 13 k)), some (.int a1), some (.int v2_1), none]) B.1 dJ5_append_c97b9_4 (by decide) rfl rfl rfl ?_
  refine g_iload_n (np := 6) B.1 dJ5_append_c97b9_5 rfl rfl ?_
  refine g_iload_n (np := 7) B.1 dJ5_append_c97b9_6 rfl rfl ?_
  refine gc_java_lang_AbstractStringBuilder_245 (np := 10) B   (oJ6_stringSize_0f7a4 B.1.tr   a1  _ _ _ h) (Nat.le_of_ble_eq_true rfl) (Nat.le_of_ble_eq_true rfl) (Nat.le_of_ble_eq_true rfl) (Nat.le_of_ble_eq_true rfl) (Nat.le_of_ble_eq_true rfl) dJ5_append_c97b9_7 rfl (fun r2 s3 h => ?_)
  obtain ⟨es3, h⟩ := h
  rw [es3]
  refine g_iadd (np := 11) B.1 dJ5_append_c97b9_10 rfl ?_
  refine g_topi (fun v3_4 ev3_4 => ?_)
  replace h := h v3_4 ev3_4
  refine g_istore_n (np := 12) (lv' := [some (.ref (xad (fX K) 13 k)), some (.int a1), some (.int v2_1), some (.int v3_4)]) B.1 dJ5_append_c97b9_11 (by decide) rfl rfl rfl ?_
  refine g_aload_n (np := 13) B.1 dJ5_append_c97b9_12 rfl rfl ?_
  refine g_iload_n (np := 14) B.1 dJ5_append_c97b9_13 rfl rfl ?_
  refine gc_java_lang_AbstractStringBuilder_100 (np := 17) B k hk (oJ5_ensureCapacityInternal_d00df B.1.tr k hk v3_4  _ _ _ h) (Nat.le_of_ble_eq_true rfl) (Nat.le_of_ble_eq_true rfl) (Nat.le_of_ble_eq_true rfl) (Nat.le_of_ble_eq_true rfl) (Nat.le_of_ble_eq_true rfl) dJ5_append_c97b9_14 rfl (fun s6 h => ?_)
  refine g_aload_n (np := 18) B.1 dJ5_append_c97b9_17 rfl rfl ?_
  refine gc_java_lang_AbstractStringBuilder_83 (np := 21) B k hk (oJ5_isLatin1_aae02 B.1.tr k hk   _ _ _ h) (Nat.le_of_ble_eq_true rfl) (Nat.le_of_ble_eq_true rfl) (Nat.le_of_ble_eq_true rfl) (Nat.le_of_ble_eq_true rfl) (Nat.le_of_ble_eq_true rfl) dJ5_append_c97b9_18 rfl (fun r7 s8 h => ?_)
  obtain ⟨es8, h⟩ := h
  rw [es8]
  refine g_if_eq (np := 24) (tgt := 37) B.1 dJ5_append_c97b9_21 (by decide) rfl (fun q => ?_) (fun q => ?_)
  · replace h := h.1 q
    exact h.elim
  · replace h := h.2 q
    refine g_iload_n (np := 25) B.1 dJ5_append_c97b9_24 rfl rfl ?_
    refine g_iload_n (np := 26) B.1 dJ5_append_c97b9_25 rfl rfl ?_
    refine g_aload_n (np := 27) B.1 dJ5_append_c97b9_26 rfl rfl ?_
    refine gf_java_lang_AbstractStringBuilder_15_13 (np := 30) B.1 k hk dJ5_append_c97b9_27 rfl ?_
    refine gc_java_lang_AbstractStringBuilder_248 (np := 33) B k hk (oJ6_getChars_ba4f3 B.1.tr k hk a1 v3_4  _ _ _ h) (Nat.le_of_ble_eq_true rfl) (Nat.le_of_ble_eq_true rfl) (Nat.le_of_ble_eq_true rfl) (Nat.le_of_ble_eq_true rfl) (Nat.le_of_ble_eq_true rfl) dJ5_append_c97b9_30 rfl (fun r9 s10 h => ?_)
    refine g_pop (np := 34) B.1 dJ5_append_c97b9_33 rfl rfl ?_
    refine g_goto (tgt := 48) B.1 dJ5_append_c97b9_34 (by decide) ?_
    refine g_aload_n (np := 49) B.1 dJ5_append_c97b9_48 rfl rfl ?_
    refine g_iload_n (np := 50) B.1 dJ5_append_c97b9_49 rfl rfl ?_
    refine gp_java_lang_AbstractStringBuilder_79_13 (np := 53) B.1 k hk dJ5_append_c97b9_50 rfl ?_
    refine g_mem (fun s11 es11 => ?_)
    replace h := h s11 es11
    refine g_aload_n (np := 54) B.1 dJ5_append_c97b9_53 rfl rfl ?_
    exact g_aret B rfl (Or.inl ⟨_, rfl⟩) (Or.inr ⟨_, rfl⟩) (Nat.le_of_ble_eq_true rfl) (Nat.le_of_ble_eq_true rfl) dJ5_append_c97b9_54 ⟨rfl, h⟩
def wJ0_getBytes_840e7 (k : Nat) (a0 : Nat) (a2 : Int32) (a3 : Int32) (s0 : Mem) (Q : Mem → Prop) (E : String → Mem → Prop) : Prop := wJ0_coder_7d493  a0 s0 (fun (r1 : Int32) (s2 : Mem) => s2 = s0 ∧ ((¬ r1 = a3 → False) ∧ (r1 = a3 → ((¬ (a2 <<< (a3 &&& 31)) < 0) ∧ (¬ (nI (stLen.getD a0 0)) < 0) ∧ (nI (stLen.getD a0 0)).toNatClampNeg ≤ stLen.getD a0 0 ∧ (a2 <<< (a3 &&& 31)).toNatClampNeg + (nI (stLen.getD a0 0)).toNatClampNeg ≤ s0.2.2.1 k) ∧ ∀ s3 : Mem, s3 = cpT s0 a0 k (a2 <<< (a3 &&& 31)).toNatClampNeg (nI (stLen.getD a0 0)).toNatClampNeg → Q s3))) E
set_option maxRecDepth 20000 in
set_option maxHeartbeats 4000000 in
theorem oJ0_getBytes_840e7 {l : Launch} {x : Ctx} (hl : l.stackTraces = false) (k : Nat) (hk : k < oCnt x 16) (a0 : Nat) (a2 : Int32) (a3 : Int32) (ha0 : a0 < 18) (s0 : Mem) (Q : Mem → Prop) (E : String → Mem → Prop) (h : wJ0_getBytes_840e7 k a0 a2 a3 s0 Q E) : MetG l x yJ0_getBytes_840e7 cJ0_getBytes_840e7 4 none 1 60 0 0 [.ref (xen x 3 a0), .ref (s0.2.1 k), .int a2, .int a3] s0 (RV Q) E := by
  refine MetG.of hl (by decide) (Nat.le_of_ble_eq_true rfl) [some (.ref (xen x 3 a0)), some (.ref (s0.2.1 k)), some (.int a2), some (.int a3)] rfl (fun K B hx _ => ?_)
  subst hx
  unfold wJ0_getBytes_840e7 at h
  refine g_aload_n (np := 1) B.1 dJ0_getBytes_840e7_0 rfl rfl ?_
  refine gc_java_lang_String_335 (np := 4) B  ha0 (oJ0_coder_7d493 B.1.tr   a0 ha0 _ _ _ h) (Nat.le_of_ble_eq_true rfl) (Nat.le_of_ble_eq_true rfl) (Nat.le_of_ble_eq_true rfl) (Nat.le_of_ble_eq_true rfl) (Nat.le_of_ble_eq_true rfl) dJ0_getBytes_840e7_1 rfl (fun r1 s2 h => ?_)
  obtain ⟨es2, h⟩ := h
  rw [es2]
  refine g_iload_n (np := 5) B.1 dJ0_getBytes_840e7_4 rfl rfl ?_
  refine g_icmp_ne (np := 8) (tgt := 28) B.1 dJ0_getBytes_840e7_5 (by decide) rfl (fun q => ?_) (fun q => ?_)
  · replace h := h.1 q
    exact h.elim
  · replace h := h.2 q
    refine g_aload_n (np := 9) B.1 dJ0_getBytes_840e7_8 rfl rfl ?_
    refine g_strV (np := 12) B.1 ha0 b_384 dJ0_getBytes_840e7_9 rfl ?_
    refine g_iconst (np := 13) (v := 0) B.1 dJ0_getBytes_840e7_12 (by decide) rfl ?_
    refine g_aload_n (np := 14) B.1 dJ0_getBytes_840e7_13 rfl rfl ?_
    refine g_iload_n (np := 15) B.1 dJ0_getBytes_840e7_14 rfl rfl ?_
    refine g_iload_n (np := 16) B.1 dJ0_getBytes_840e7_15 rfl rfl ?_
    refine g_ishl (np := 17) B.1 dJ0_getBytes_840e7_16 rfl ?_
    refine g_aload_n (np := 18) B.1 dJ0_getBytes_840e7_17 rfl rfl ?_
    refine g_strV (np := 21) B.1 ha0 b_384 dJ0_getBytes_840e7_18 rfl ?_
    refine g_alenT (np := 22) B.1 ha0 dJ0_getBytes_840e7_21 rfl ?_
    refine g_copyT (np := 25) B.1 b_232 b_159 b_158 b_53 ha0 k hk h.1.1 h.1.2.1 h.1.2.2.1 h.1.2.2.2 (by rw [B.2.1]; exact Nat.le_of_ble_eq_true rfl) (by rw [B.2.1]; exact Nat.le_of_ble_eq_true (by decide +kernel)) dJ0_getBytes_840e7_22 rfl ?_
    replace h := h.2
    refine g_mem (fun s3 es3 => ?_)
    replace h := h s3 es3
    refine Go.eq rfl rfl (lv' := [some (.ref (xen (fX K) 3 a0)), some (.ref (s3.2.1 k)), some (.int a2), some (.int a3)]) (by subst es3; rfl) (st' := []) (by subst es3; rfl) ?_
    refine g_goto (tgt := 43) B.1 dJ0_getBytes_840e7_25 (by decide) ?_
    exact g_vret B rfl (Nat.le_of_ble_eq_true rfl) (Nat.le_of_ble_eq_true rfl) dJ0_getBytes_840e7_43 ⟨rfl, h⟩
def wJ5_inflateIfNeededFor_a7421 (k : Nat) (a1 : Nat) (s0 : Mem) (Q : Mem → Prop) (E : String → Mem → Prop) : Prop := wJ0_coder_7d493  a1 s0 (fun (r1 : Int32) (s2 : Mem) => s2 = s0 ∧ ((rd s0 13 k 1 = r1 → Q s0) ∧ (¬ rd s0 13 k 1 = r1 → False))) E
set_option maxRecDepth 20000 in
set_option maxHeartbeats 4000000 in
theorem oJ5_inflateIfNeededFor_a7421 {l : Launch} {x : Ctx} (hl : l.stackTraces = false) (k : Nat) (hk : k < oCnt x 13) (a1 : Nat) (ha1 : a1 < 18) (s0 : Mem) (Q : Mem → Prop) (E : String → Mem → Prop) (h : wJ5_inflateIfNeededFor_a7421 k a1 s0 Q E) : MetG l x yJ5_inflateIfNeededFor_a7421 cJ5_inflateIfNeededFor_a7421 2 none 1 20 0 0 [.ref (xad x 13 k), .ref (xen x 3 a1)] s0 (RV Q) E := by
  refine MetG.of hl (by decide) (Nat.le_of_ble_eq_true rfl) [some (.ref (xad x 13 k)), some (.ref (xen x 3 a1))] rfl (fun K B hx _ => ?_)
  subst hx
  unfold wJ5_inflateIfNeededFor_a7421 at h
  refine g_compact (np := 3) B.1 b_90 dJ5_inflateIfNeededFor_a7421_0 rfl ?_
  refine g_if_eq (np := 6) (tgt := 21) B.1 dJ5_inflateIfNeededFor_a7421_3 (by decide) rfl (fun q => absurd q (by decide)) (fun _ => ?_)
  refine g_aload_n (np := 7) B.1 dJ5_inflateIfNeededFor_a7421_6 rfl rfl ?_
  refine gf_java_lang_AbstractStringBuilder_22_13 (np := 10) B.1 k hk dJ5_inflateIfNeededFor_a7421_7 rfl ?_
  refine g_aload_n (np := 11) B.1 dJ5_inflateIfNeededFor_a7421_10 rfl rfl ?_
  refine gc_java_lang_AbstractStringBuilder_40 (np := 14) B  ha1 (oJ0_coder_7d493 B.1.tr   a1 ha1 _ _ _ h) (Nat.le_of_ble_eq_true rfl) (Nat.le_of_ble_eq_true rfl) (Nat.le_of_ble_eq_true rfl) (Nat.le_of_ble_eq_true rfl) (Nat.le_of_ble_eq_true rfl) dJ5_inflateIfNeededFor_a7421_11 rfl (fun r1 s2 h => ?_)
  obtain ⟨es2, h⟩ := h
  rw [es2]
  refine g_icmp_eq (np := 17) (tgt := 21) B.1 dJ5_inflateIfNeededFor_a7421_14 (by decide) rfl (fun q => ?_) (fun q => ?_)
  · replace h := h.1 q
    exact g_vret B rfl (Nat.le_of_ble_eq_true rfl) (Nat.le_of_ble_eq_true rfl) dJ5_inflateIfNeededFor_a7421_21 ⟨rfl, h⟩
  · replace h := h.2 q
    exact h.elim
def wJ5_putStringAt_47b60 (k : Nat) (a1 : Int32) (a2 : Nat) (s0 : Mem) (Q : Mem → Prop) (E : String → Mem → Prop) : Prop := wJ5_inflateIfNeededFor_a7421 k a2 s0 (fun (s2 : Mem) => s2 = s0 ∧ wJ0_getBytes_840e7 k a2 a1 (rd s0 13 k 1) s0 (fun (s4 : Mem) => Q s4) E) E
set_option maxRecDepth 20000 in
set_option maxHeartbeats 4000000 in
theorem oJ5_putStringAt_47b60 {l : Launch} {x : Ctx} (hl : l.stackTraces = false) (k : Nat) (hk : k < oCnt x 13) (a1 : Int32) (a2 : Nat) (ha2 : a2 < 18) (s0 : Mem) (Q : Mem → Prop) (E : String → Mem → Prop) (h : wJ5_putStringAt_47b60 k a1 a2 s0 Q E) : MetG l x yJ5_putStringAt_47b60 cJ5_putStringAt_47b60 3 none 2 83 0 0 [.ref (xad x 13 k), .int a1, .ref (xen x 3 a2)] s0 (RV Q) E := by
  refine MetG.of hl (by decide) (Nat.le_of_ble_eq_true rfl) [some (.ref (xad x 13 k)), some (.int a1), some (.ref (xen x 3 a2))] rfl (fun K B hx _ => ?_)
  subst hx
  unfold wJ5_putStringAt_47b60 at h
  refine g_aload_n (np := 1) B.1 dJ5_putStringAt_47b60_0 rfl rfl ?_
  refine g_aload_n (np := 2) B.1 dJ5_putStringAt_47b60_1 rfl rfl ?_
  refine gc_java_lang_AbstractStringBuilder_397 (np := 5) B k hk (oJ5_inflateIfNeededFor_a7421 B.1.tr k hk a2 ha2 _ _ _ h) (Nat.le_of_ble_eq_true rfl) (Nat.le_of_ble_eq_true rfl) (Nat.le_of_ble_eq_true rfl) (Nat.le_of_ble_eq_true rfl) (Nat.le_of_ble_eq_true rfl) dJ5_putStringAt_47b60_2 rfl (fun s2 h => ?_)
  obtain ⟨es2, h⟩ := h
  rw [es2]
  refine g_aload_n (np := 6) B.1 dJ5_putStringAt_47b60_5 rfl rfl ?_
  refine g_aload_n (np := 7) B.1 dJ5_putStringAt_47b60_6 rfl rfl ?_
  refine gf_java_lang_AbstractStringBuilder_15_13 (np := 10) B.1 k hk dJ5_putStringAt_47b60_7 rfl ?_
  refine g_iload_n (np := 11) B.1 dJ5_putStringAt_47b60_10 rfl rfl ?_
  refine g_aload_n (np := 12) B.1 dJ5_putStringAt_47b60_11 rfl rfl ?_
  refine gf_java_lang_AbstractStringBuilder_22_13 (np := 15) B.1 k hk dJ5_putStringAt_47b60_12 rfl ?_
  refine gc_java_lang_AbstractStringBuilder_399 (np := 18) B k hk ha2 (oJ0_getBytes_840e7 B.1.tr k hk a2 a1 (rd s0 13 k 1) ha2 _ _ _ h) (Nat.le_of_ble_eq_true rfl) (Nat.le_of_ble_eq_true rfl) (Nat.le_of_ble_eq_true rfl) (Nat.le_of_ble_eq_true rfl) (Nat.le_of_ble_eq_true rfl) dJ5_putStringAt_47b60_15 rfl (fun s4 h => ?_)
  exact g_vret B rfl (Nat.le_of_ble_eq_true rfl) (Nat.le_of_ble_eq_true rfl) dJ5_putStringAt_47b60_18 ⟨rfl, h⟩
def wJ5_append_cf1ce (k : Nat) (a1 : Nat) (s0 : Mem) (Q : Mem → Prop) (E : String → Mem → Prop) : Prop := wJ0_length_8abf5  a1 s0 (fun (r1 : Int32) (s2 : Mem) => s2 = s0 ∧ wJ5_ensureCapacityInternal_d00df k ((rd s0 13 k 3) + r1) s0 (fun (s4 : Mem) => wJ5_putStringAt_47b60 k (rd s4 13 k 3) a1 s4 (fun (s6 : Mem) => ∀ s7 : Mem, s7 = wr s6 13 k 3 ((rd s6 13 k 3) + r1) → Q s7) E) E) E
set_option maxRecDepth 20000 in
set_option maxHeartbeats 4000000 in
theorem oJ5_append_cf1ce {l : Launch} {x : Ctx} (hl : l.stackTraces = false) (k : Nat) (hk : k < oCnt x 13) (a1 : Nat) (ha1 : a1 < 18) (s0 : Mem) (Q : Mem → Prop) (E : String → Mem → Prop) (h : wJ5_append_cf1ce k a1 s0 Q E) : MetG l x yJ5_append_cf1ce cJ5_append_cf1ce 3 (some (.object "java/lang/AbstractStringBuilder")) 7 222 1 302 [.ref (xad x 13 k), .ref (xen x 3 a1)] s0 (RR (xad x 13 k) Q) E := by
  refine MetG.of hl (by decide) (Nat.le_of_ble_eq_true rfl) [some (.ref (xad x 13 k)), some (.ref (xen x 3 a1)), none] rfl (fun K B hx _ => ?_)
  subst hx
  unfold wJ5_append_cf1ce at h
  refine g_aload_n (np := 1) B.1 dJ5_append_cf1ce_0 rfl rfl ?_
  refine g_ifnonnull (tgt := 9) B.1 dJ5_append_cf1ce_1 (by decide) ?_
  refine g_aload_n (np := 10) B.1 dJ5_append_cf1ce_9 rfl rfl ?_
  refine gc_java_lang_AbstractStringBuilder_32 (np := 13) B  ha1 (oJ0_length_8abf5 B.1.tr   a1 ha1 _ _ _ h) (Nat.le_of_ble_eq_true rfl) (Nat.le_of_ble_eq_true rfl) (Nat.le_of_ble_eq_true rfl) (Nat.le_of_ble_eq_true rfl) (Nat.le_of_ble_eq_true rfl) dJ5_append_cf1ce_10 rfl (fun r1 s2 h => ?_)
  obtain ⟨es2, h⟩ := h
  rw [es2]
  refine g_istore_n (np := 14) (lv' := [some (.ref (xad (fX K) 13 k)), some (.ref (xen (fX K) 3 a1)), some (.int r1)]) B.1 dJ5_append_cf1ce_13 (by decide) rfl rfl rfl ?_
  refine g_aload_n (np := 15) B.1 dJ5_append_cf1ce_14 rfl rfl ?_
  refine g_aload_n (np := 16) B.1 dJ5_append_cf1ce_15 rfl rfl ?_
  refine gf_java_lang_AbstractStringBuilder_79_13 (np := 19) B.1 k hk dJ5_append_cf1ce_16 rfl ?_
  refine g_iload_n (np := 20) B.1 dJ5_append_cf1ce_19 rfl rfl ?_
  refine g_iadd (np := 21) B.1 dJ5_append_cf1ce_20 rfl ?_
  refine gc_java_lang_AbstractStringBuilder_100 (np := 24) B k hk (oJ5_ensureCapacityInternal_d00df B.1.tr k hk ((rd s0 13 k 3) + r1)  _ _ _ h) (Nat.le_of_ble_eq_true rfl) (Nat.le_of_ble_eq_true rfl) (Nat.le_of_ble_eq_true rfl) (Nat.le_of_ble_eq_true rfl) (Nat.le_of_ble_eq_true rfl) dJ5_append_cf1ce_21 rfl (fun s4 h => ?_)
  refine g_aload_n (np := 25) B.1 dJ5_append_cf1ce_24 rfl rfl ?_
  refine g_aload_n (np := 26) B.1 dJ5_append_cf1ce_25 rfl rfl ?_
  refine gf_java_lang_AbstractStringBuilder_79_13 (np := 29) B.1 k hk dJ5_append_cf1ce_26 rfl ?_
  refine g_aload_n (np := 30) B.1 dJ5_append_cf1ce_29 rfl rfl ?_
  refine gc_java_lang_AbstractStringBuilder_208 (np := 33) B k hk (oJ5_putStringAt_47b60 B.1.tr k hk (rd s4 13 k 3) a1 ha1 _ _ _ h) (Nat.le_of_ble_eq_true rfl) (Nat.le_of_ble_eq_true rfl) (Nat.le_of_ble_eq_true rfl) (Nat.le_of_ble_eq_true rfl) (Nat.le_of_ble_eq_true rfl) dJ5_append_cf1ce_30 rfl (fun s6 h => ?_)
  refine g_aload_n (np := 34) B.1 dJ5_append_cf1ce_33 rfl rfl ?_
  refine g_dup (np := 35) B.1 dJ5_append_cf1ce_34 rfl rfl ?_
  refine gf_java_lang_AbstractStringBuilder_79_13 (np := 38) B.1 k hk dJ5_append_cf1ce_35 rfl ?_
  refine g_iload_n (np := 39) B.1 dJ5_append_cf1ce_38 rfl rfl ?_
  refine g_iadd (np := 40) B.1 dJ5_append_cf1ce_39 rfl ?_
  refine gp_java_lang_AbstractStringBuilder_79_13 (np := 43) B.1 k hk dJ5_append_cf1ce_40 rfl ?_
  refine g_mem (fun s7 es7 => ?_)
  replace h := h s7 es7
  refine g_aload_n (np := 44) B.1 dJ5_append_cf1ce_43 rfl rfl ?_
  exact g_aret B rfl (Or.inl ⟨_, rfl⟩) (Or.inr ⟨_, rfl⟩) (Nat.le_of_ble_eq_true rfl) (Nat.le_of_ble_eq_true rfl) dJ5_append_cf1ce_44 ⟨rfl, h⟩
def wJ5_setLength_d00df (k : Nat) (a1 : Int32) (s0 : Mem) (Q : Mem → Prop) (E : String → Mem → Prop) : Prop := ((0 ≤ a1 → wJ5_ensureCapacityInternal_d00df k a1 s0 (fun (s2 : Mem) => ((a1 ≤ rd s2 13 k 3 → ((rd s2 13 k 3 ≤ a1 → ∀ s3 : Mem, s3 = wr s2 13 k 3 a1 → Q s3) ∧ (¬ rd s2 13 k 3 ≤ a1 → ∀ s4 : Mem, s4 = wr s2 13 k 2 1 → ∀ s5 : Mem, s5 = wr s4 13 k 3 a1 → Q s5))) ∧ (¬ a1 ≤ rd s2 13 k 3 → False))) E) ∧ (¬ 0 ≤ a1 → False))
set_option maxRecDepth 20000 in
set_option maxHeartbeats 4000000 in
theorem oJ5_setLength_d00df {l : Launch} {x : Ctx} (hl : l.stackTraces = false) (k : Nat) (hk : k < oCnt x 13) (a1 : Int32)  (s0 : Mem) (Q : Mem → Prop) (E : String → Mem → Prop) (h : wJ5_setLength_d00df k a1 s0 Q E) : MetG l x yJ5_setLength_d00df cJ5_setLength_d00df 2 none 7 222 1 302 [.ref (xad x 13 k), .int a1] s0 (RV Q) E := by
  refine MetG.of hl (by decide) (Nat.le_of_ble_eq_true rfl) [some (.ref (xad x 13 k)), some (.int a1)] rfl (fun K B hx _ => ?_)
  subst hx
  unfold wJ5_setLength_d00df at h
  refine g_iload_n (np := 1) B.1 dJ5_setLength_d00df_0 rfl rfl ?_
  refine g_if_ge (np := 4) (tgt := 13) B.1 dJ5_setLength_d00df_1 (by decide) rfl (fun q => ?_) (fun q => ?_)
  · replace h := h.1 q
    refine g_aload_n (np := 14) B.1 dJ5_setLength_d00df_13 rfl rfl ?_
    refine g_iload_n (np := 15) B.1 dJ5_setLength_d00df_14 rfl rfl ?_
    refine gc_java_lang_AbstractStringBuilder_100 (np := 18) B k hk (oJ5_ensureCapacityInternal_d00df B.1.tr k hk a1  _ _ _ h) (Nat.le_of_ble_eq_true rfl) (Nat.le_of_ble_eq_true rfl) (Nat.le_of_ble_eq_true rfl) (Nat.le_of_ble_eq_true rfl) (Nat.le_of_ble_eq_true rfl) dJ5_setLength_d00df_15 rfl (fun s2 h => ?_)
    refine g_aload_n (np := 19) B.1 dJ5_setLength_d00df_18 rfl rfl ?_
    refine gf_java_lang_AbstractStringBuilder_79_13 (np := 22) B.1 k hk dJ5_setLength_d00df_19 rfl ?_
    refine g_iload_n (np := 23) B.1 dJ5_setLength_d00df_22 rfl rfl ?_
    refine g_icmp_ge (np := 26) (tgt := 63) B.1 dJ5_setLength_d00df_23 (by decide) rfl (fun q => ?_) (fun q => ?_)
    · replace h := h.1 q
      refine g_aload_n (np := 64) B.1 dJ5_setLength_d00df_63 rfl rfl ?_
      refine gf_java_lang_AbstractStringBuilder_79_13 (np := 67) B.1 k hk dJ5_setLength_d00df_64 rfl ?_
      refine g_iload_n (np := 68) B.1 dJ5_setLength_d00df_67 rfl rfl ?_
      refine g_icmp_le (np := 71) (tgt := 76) B.1 dJ5_setLength_d00df_68 (by decide) rfl (fun q => ?_) (fun q => ?_)
      · replace h := h.1 q
        refine g_aload_n (np := 77) B.1 dJ5_setLength_d00df_76 rfl rfl ?_
        refine g_iload_n (np := 78) B.1 dJ5_setLength_d00df_77 rfl rfl ?_
        refine gp_java_lang_AbstractStringBuilder_79_13 (np := 81) B.1 k hk dJ5_setLength_d00df_78 rfl ?_
        refine g_mem (fun s3 es3 => ?_)
        replace h := h s3 es3
        exact g_vret B rfl (Nat.le_of_ble_eq_true rfl) (Nat.le_of_ble_eq_true rfl) dJ5_setLength_d00df_81 ⟨rfl, h⟩
      · replace h := h.2 q
        refine g_aload_n (np := 72) B.1 dJ5_setLength_d00df_71 rfl rfl ?_
        refine g_iconst (np := 73) (v := 1) B.1 dJ5_setLength_d00df_72 (by decide) rfl ?_
        refine gp_java_lang_AbstractStringBuilder_73_13 (np := 76) B.1 k hk (by decide) dJ5_setLength_d00df_73 rfl ?_
        refine g_mem (fun s4 es4 => ?_)
        replace h := h s4 es4
        refine g_aload_n (np := 77) B.1 dJ5_setLength_d00df_76 rfl rfl ?_
        refine g_iload_n (np := 78) B.1 dJ5_setLength_d00df_77 rfl rfl ?_
        refine gp_java_lang_AbstractStringBuilder_79_13 (np := 81) B.1 k hk dJ5_setLength_d00df_78 rfl ?_
        refine g_mem (fun s5 es5 => ?_)
        replace h := h s5 es5
        exact g_vret B rfl (Nat.le_of_ble_eq_true rfl) (Nat.le_of_ble_eq_true rfl) dJ5_setLength_d00df_81 ⟨rfl, h⟩
    · replace h := h.2 q
      exact h.elim
  · replace h := h.2 q
    exact h.elim
def wJ4_append_cf468 (k : Nat) (a1 : Int32) (s0 : Mem) (Q : Mem → Prop) (E : String → Mem → Prop) : Prop := wJ5_append_3fe6f k a1 s0 (fun (s2 : Mem) => Q s2) E
set_option maxRecDepth 20000 in
set_option maxHeartbeats 4000000 in
theorem oJ4_append_cf468 {l : Launch} {x : Ctx} (hl : l.stackTraces = false) (k : Nat) (hk : k < oCnt x 13) (a1 : Int32)  (s0 : Mem) (Q : Mem → Prop) (E : String → Mem → Prop) (h : wJ4_append_cf468 k a1 s0 Q E) : MetG l x yJ4_append_cf468 cJ4_append_cf468 2 (some (.object "java/lang/StringBuilder")) 8 243 1 302 [.ref (xad x 13 k), .int a1] s0 (RR (xad x 13 k) Q) E := by
  refine MetG.of hl (by decide) (Nat.le_of_ble_eq_true rfl) [some (.ref (xad x 13 k)), some (.int a1)] rfl (fun K B hx _ => ?_)
  subst hx
  unfold wJ4_append_cf468 at h
  refine g_aload_n (np := 1) B.1 dJ4_append_cf468_0 rfl rfl ?_
  refine g_iload_n (np := 2) B.1 dJ4_append_cf468_1 rfl rfl ?_
  refine gc_java_lang_StringBuilder_50 (np := 5) B k hk (oJ5_append_3fe6f B.1.tr k hk a1  _ _ _ h) (Nat.le_of_ble_eq_true rfl) (Nat.le_of_ble_eq_true rfl) (Nat.le_of_ble_eq_true rfl) (Nat.le_of_ble_eq_true rfl) (Nat.le_of_ble_eq_true rfl) dJ4_append_cf468_2 rfl (fun s2 h => ?_)
  refine g_pop (np := 6) B.1 dJ4_append_cf468_5 rfl rfl ?_
  refine g_aload_n (np := 7) B.1 dJ4_append_cf468_6 rfl rfl ?_
  exact g_aret B rfl (Or.inl ⟨_, rfl⟩) (Or.inr ⟨_, rfl⟩) (Nat.le_of_ble_eq_true rfl) (Nat.le_of_ble_eq_true rfl) dJ4_append_cf468_7 ⟨rfl, h⟩
def wJ4_append_bf812 (k : Nat) (a1 : Int32) (s0 : Mem) (Q : Mem → Prop) (E : String → Mem → Prop) : Prop := wJ5_append_c97b9 k a1 s0 (fun (s2 : Mem) => Q s2) E
set_option maxRecDepth 20000 in
set_option maxHeartbeats 4000000 in
theorem oJ4_append_bf812 {l : Launch} {x : Ctx} (hl : l.stackTraces = false) (k : Nat) (hk : k < oCnt x 13) (a1 : Int32)  (s0 : Mem) (Q : Mem → Prop) (E : String → Mem → Prop) (h : wJ4_append_bf812 k a1 s0 Q E) : MetG l x yJ4_append_bf812 cJ4_append_bf812 2 (some (.object "java/lang/StringBuilder")) 8 245 1 302 [.ref (xad x 13 k), .int a1] s0 (RR (xad x 13 k) Q) E := by
  refine MetG.of hl (by decide) (Nat.le_of_ble_eq_true rfl) [some (.ref (xad x 13 k)), some (.int a1)] rfl (fun K B hx _ => ?_)
  subst hx
  unfold wJ4_append_bf812 at h
  refine g_aload_n (np := 1) B.1 dJ4_append_bf812_0 rfl rfl ?_
  refine g_iload_n (np := 2) B.1 dJ4_append_bf812_1 rfl rfl ?_
  refine gc_java_lang_StringBuilder_53 (np := 5) B k hk (oJ5_append_c97b9 B.1.tr k hk a1  _ _ _ h) (Nat.le_of_ble_eq_true rfl) (Nat.le_of_ble_eq_true rfl) (Nat.le_of_ble_eq_true rfl) (Nat.le_of_ble_eq_true rfl) (Nat.le_of_ble_eq_true rfl) dJ4_append_bf812_2 rfl (fun s2 h => ?_)
  refine g_pop (np := 6) B.1 dJ4_append_bf812_5 rfl rfl ?_
  refine g_aload_n (np := 7) B.1 dJ4_append_bf812_6 rfl rfl ?_
  exact g_aret B rfl (Or.inl ⟨_, rfl⟩) (Or.inr ⟨_, rfl⟩) (Nat.le_of_ble_eq_true rfl) (Nat.le_of_ble_eq_true rfl) dJ4_append_bf812_7 ⟨rfl, h⟩
def wJ4_append_15ec4 (k : Nat) (a1 : Nat) (s0 : Mem) (Q : Mem → Prop) (E : String → Mem → Prop) : Prop := wJ5_append_cf1ce k a1 s0 (fun (s2 : Mem) => Q s2) E
set_option maxRecDepth 20000 in
set_option maxHeartbeats 4000000 in
theorem oJ4_append_15ec4 {l : Launch} {x : Ctx} (hl : l.stackTraces = false) (k : Nat) (hk : k < oCnt x 13) (a1 : Nat) (ha1 : a1 < 18) (s0 : Mem) (Q : Mem → Prop) (E : String → Mem → Prop) (h : wJ4_append_15ec4 k a1 s0 Q E) : MetG l x yJ4_append_15ec4 cJ4_append_15ec4 2 (some (.object "java/lang/StringBuilder")) 8 244 1 302 [.ref (xad x 13 k), .ref (xen x 3 a1)] s0 (RR (xad x 13 k) Q) E := by
  refine MetG.of hl (by decide) (Nat.le_of_ble_eq_true rfl) [some (.ref (xad x 13 k)), some (.ref (xen x 3 a1))] rfl (fun K B hx _ => ?_)
  subst hx
  unfold wJ4_append_15ec4 at h
  refine g_aload_n (np := 1) B.1 dJ4_append_15ec4_0 rfl rfl ?_
  refine g_aload_n (np := 2) B.1 dJ4_append_15ec4_1 rfl rfl ?_
  refine gc_java_lang_StringBuilder_29 (np := 5) B k hk (oJ5_append_cf1ce B.1.tr k hk a1 ha1 _ _ _ h) (Nat.le_of_ble_eq_true rfl) (Nat.le_of_ble_eq_true rfl) (Nat.le_of_ble_eq_true rfl) (Nat.le_of_ble_eq_true rfl) (Nat.le_of_ble_eq_true rfl) dJ4_append_15ec4_2 rfl (fun s2 h => ?_)
  refine g_pop (np := 6) B.1 dJ4_append_15ec4_5 rfl rfl ?_
  refine g_aload_n (np := 7) B.1 dJ4_append_15ec4_6 rfl rfl ?_
  exact g_aret B rfl (Or.inl ⟨_, rfl⟩) (Or.inr ⟨_, rfl⟩) (Nat.le_of_ble_eq_true rfl) (Nat.le_of_ble_eq_true rfl) dJ4_append_15ec4_7 ⟨rfl, h⟩
def wJ4_setLength_d00df (k : Nat) (a1 : Int32) (s0 : Mem) (Q : Mem → Prop) (E : String → Mem → Prop) : Prop := wJ5_setLength_d00df k a1 s0 (fun (s2 : Mem) => Q s2) E
set_option maxRecDepth 20000 in
set_option maxHeartbeats 4000000 in
theorem oJ4_setLength_d00df {l : Launch} {x : Ctx} (hl : l.stackTraces = false) (k : Nat) (hk : k < oCnt x 13) (a1 : Int32)  (s0 : Mem) (Q : Mem → Prop) (E : String → Mem → Prop) (h : wJ4_setLength_d00df k a1 s0 Q E) : MetG l x yJ4_setLength_d00df cJ4_setLength_d00df 2 none 8 243 1 302 [.ref (xad x 13 k), .int a1] s0 (RV Q) E := by
  refine MetG.of hl (by decide) (Nat.le_of_ble_eq_true rfl) [some (.ref (xad x 13 k)), some (.int a1)] rfl (fun K B hx _ => ?_)
  subst hx
  unfold wJ4_setLength_d00df at h
  refine g_aload_n (np := 1) B.1 dJ4_setLength_d00df_0 rfl rfl ?_
  refine g_iload_n (np := 2) B.1 dJ4_setLength_d00df_1 rfl rfl ?_
  refine gc_java_lang_StringBuilder_333 (np := 5) B k hk (oJ5_setLength_d00df B.1.tr k hk a1  _ _ _ h) (Nat.le_of_ble_eq_true rfl) (Nat.le_of_ble_eq_true rfl) (Nat.le_of_ble_eq_true rfl) (Nat.le_of_ble_eq_true rfl) (Nat.le_of_ble_eq_true rfl) dJ4_setLength_d00df_2 rfl (fun s2 h => ?_)
  exact g_vret B rfl (Nat.le_of_ble_eq_true rfl) (Nat.le_of_ble_eq_true rfl) dJ4_setLength_d00df_5 ⟨rfl, h⟩
