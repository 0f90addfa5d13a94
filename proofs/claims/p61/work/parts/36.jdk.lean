theorem oJ3_checkIndex_8e157 {l : Launch} {x : Ctx} (hl : l.stackTraces = false) (i n : Int32) (o : Option Nat) (s0 : Mem) (E : String → Mem → Prop) (h1 : ¬ i < 0) (h2 : i < n) : MetG l x yJ3_checkIndex_8e157 cJ3_checkIndex_8e157 3 (some .int) 0 0 0 0 [.int i, .int n, va_rf o] s0 (RI (fun _ τ => τ = s0)) E := by
  rcases o with _ | a
  · refine MetG.of hl (by decide) (Nat.le_of_ble_eq_true rfl) [some (.int i), some (.int n), some .null] rfl (fun K B hx _ => ?_)
    subst hx
    refine g_iload_n (np := 1) B.1 dJ3_checkIndex_8e157_0 rfl rfl ?_
    refine g_if_lt (np := 4) (tgt := 9) B.1 dJ3_checkIndex_8e157_1 (by decide) rfl (fun q => absurd q h1) (fun _ => ?_)
    refine g_iload_n (np := 5) B.1 dJ3_checkIndex_8e157_4 rfl rfl ?_
    refine g_iload_n (np := 6) B.1 dJ3_checkIndex_8e157_5 rfl rfl ?_
    refine g_icmp_lt (np := 9) (tgt := 16) B.1 dJ3_checkIndex_8e157_6 (by decide) rfl (fun _ => ?_) (fun q => absurd h2 q)
    refine g_iload_n (np := 17) B.1 dJ3_checkIndex_8e157_16 rfl rfl ?_
    exact g_iret B (ty := .int) rfl rfl (Nat.le_refl _) (Nat.le_refl _) dJ3_checkIndex_8e157_17 ⟨_, rfl, rfl⟩
  · refine MetG.of hl (by decide) (Nat.le_of_ble_eq_true rfl) [some (.int i), some (.int n), some (.ref a)] rfl (fun K B hx _ => ?_)
    subst hx
    refine g_iload_n (np := 1) B.1 dJ3_checkIndex_8e157_0 rfl rfl ?_
    refine g_if_lt (np := 4) (tgt := 9) B.1 dJ3_checkIndex_8e157_1 (by decide) rfl (fun q => absurd q h1) (fun _ => ?_)
    refine g_iload_n (np := 5) B.1 dJ3_checkIndex_8e157_4 rfl rfl ?_
    refine g_iload_n (np := 6) B.1 dJ3_checkIndex_8e157_5 rfl rfl ?_
    refine g_icmp_lt (np := 9) (tgt := 16) B.1 dJ3_checkIndex_8e157_6 (by decide) rfl (fun _ => ?_) (fun q => absurd h2 q)
    refine g_iload_n (np := 17) B.1 dJ3_checkIndex_8e157_16 rfl rfl ?_
    exact g_iret B (ty := .int) rfl rfl (Nat.le_refl _) (Nat.le_refl _) dJ3_checkIndex_8e157_17 ⟨_, rfl, rfl⟩
def wJ0_checkIndex_df160 (a1 : Int32) (a2 : Int32) (s0 : Mem) (Q : Mem → Prop) (E : String → Mem → Prop) : Prop := ¬ a1 < 0 ∧ a1 < a2 ∧ Q s0
theorem oJ0_checkIndex_df160 {l : Launch} {x : Ctx} (hl : l.stackTraces = false) (a1 : Int32) (a2 : Int32) (s0 : Mem) (Q : Mem → Prop) (E : String → Mem → Prop) (h : wJ0_checkIndex_df160 a1 a2 s0 Q E) : MetG l x yJ0_checkIndex_df160 cJ0_checkIndex_df160 2 none 1 30 0 0 [.int a1, .int a2] s0 (RV Q) E := by
  obtain ⟨h1, h2, h⟩ := h
  refine MetG.of hl (by decide) (Nat.le_of_ble_eq_true rfl) [some (.int a1), some (.int a2)] rfl (fun K B hx _ => ?_)
  subst hx
  refine g_iload_n (np := 1) B.1 dJ0_checkIndex_df160_0 rfl rfl ?_
  refine g_iload_n (np := 2) B.1 dJ0_checkIndex_df160_1 rfl rfl ?_
  refine g_fmt (np := 5) B.1 b_177 dJ0_checkIndex_df160_2 rfl (fun o => ?_)
  refine g_callS (np := 8) B (n := 3) (As := [.int a1, .int a2, va_rf o]) (oJ3_checkIndex_8e157 B.1.tr a1 a2 o s0 E h1 h2) b_470 b_468 b_469 b_57 (by decide +kernel) rfl (Nat.le_of_ble_eq_true rfl) (Nat.le_of_ble_eq_true rfl) (Nat.le_of_ble_eq_true rfl) dJ0_checkIndex_df160_5 (Nat.le_refl _) (Nat.le_refl _) (fun _ _ q => q) rfl (fun r τ ⟨i, e, q⟩ => ?_)
  subst e
  rw [q]
  refine g_pop (np := 9) B.1 dJ0_checkIndex_df160_8 rfl rfl ?_
  exact g_vret B rfl (Nat.le_refl _) (Nat.le_refl _) dJ0_checkIndex_df160_9 ⟨rfl, h⟩
def wJ1_canEncode_fc78d  (a1 : Int32) (s0 : Mem) (Q : Int32 → Mem → Prop) (E : String → Mem → Prop) : Prop := ((255 < a1 → Q 0 s0) ∧ (¬ 255 < a1 → Q 1 s0))
set_option maxRecDepth 20000 in
set_option maxHeartbeats 4000000 in
theorem oJ1_canEncode_fc78d {l : Launch} {x : Ctx} (hl : l.stackTraces = false)   (a1 : Int32)  (s0 : Mem) (Q : Int32 → Mem → Prop) (E : String → Mem → Prop) (h : wJ1_canEncode_fc78d  a1 s0 Q E) : MetG l x yJ1_canEncode_fc78d cJ1_canEncode_fc78d 1 (some .boolean) 0 0 0 0 [.int a1] s0 (RI Q) E := by
  refine MetG.of hl (by decide) (Nat.le_of_ble_eq_true rfl) [some (.int a1)] rfl (fun K B hx _ => ?_)
  subst hx
  unfold wJ1_canEncode_fc78d at h
  refine g_iload_n (np := 1) B.1 dJ1_canEncode_fc78d_0 rfl rfl ?_
  refine g_sipush (np := 4) (v := 255) B.1 dJ1_canEncode_fc78d_1 (by decide) rfl ?_
  refine g_icmp_gt (np := 7) (tgt := 11) B.1 dJ1_canEncode_fc78d_4 (by decide) rfl (fun q => ?_) (fun q => ?_)
  · replace h := h.1 q
    refine g_iconst (np := 12) (v := 0) B.1 dJ1_canEncode_fc78d_11 (by decide) rfl ?_
    exact g_iret B (ty := .boolean) rfl (by decide) (Nat.le_of_ble_eq_true rfl) (Nat.le_of_ble_eq_true rfl) dJ1_canEncode_fc78d_12 ⟨_, rfl, h⟩
  · replace h := h.2 q
    refine g_iconst (np := 8) (v := 1) B.1 dJ1_canEncode_fc78d_7 (by decide) rfl ?_
    refine g_goto (tgt := 12) B.1 dJ1_canEncode_fc78d_8 (by decide) ?_
    exact g_iret B (ty := .boolean) rfl (by decide) (Nat.le_of_ble_eq_true rfl) (Nat.le_of_ble_eq_true rfl) dJ1_canEncode_fc78d_12 ⟨_, rfl, h⟩
def wJ5_isLatin1_aae02 (k : Nat)  (s0 : Mem) (Q : Int32 → Mem → Prop) (E : String → Mem → Prop) : Prop := ((¬ rd s0 13 k 1 = 0 → Q 0 s0) ∧ (rd s0 13 k 1 = 0 → Q 1 s0))
set_option maxRecDepth 20000 in
set_option maxHeartbeats 4000000 in
theorem oJ5_isLatin1_aae02 {l : Launch} {x : Ctx} (hl : l.stackTraces = false) (k : Nat) (hk : k < oCnt x 13)   (s0 : Mem) (Q : Int32 → Mem → Prop) (E : String → Mem → Prop) (h : wJ5_isLatin1_aae02 k  s0 Q E) : MetG l x yJ5_isLatin1_aae02 cJ5_isLatin1_aae02 1 (some .boolean) 0 0 0 0 [.ref (xad x 13 k)] s0 (RI Q) E := by
  refine MetG.of hl (by decide) (Nat.le_of_ble_eq_true rfl) [some (.ref (xad x 13 k))] rfl (fun K B hx _ => ?_)
  subst hx
  unfold wJ5_isLatin1_aae02 at h
  refine g_compact (np := 3) B.1 b_90 dJ5_isLatin1_aae02_0 rfl ?_
  refine g_if_eq (np := 6) (tgt := 17) B.1 dJ5_isLatin1_aae02_3 (by decide) rfl (fun q => absurd q (by decide)) (fun _ => ?_)
  refine g_aload_n (np := 7) B.1 dJ5_isLatin1_aae02_6 rfl rfl ?_
  refine gf_java_lang_AbstractStringBuilder_22_13 (np := 10) B.1 k hk dJ5_isLatin1_aae02_7 rfl ?_
  refine g_if_ne (np := 13) (tgt := 17) B.1 dJ5_isLatin1_aae02_10 (by decide) rfl (fun q => ?_) (fun q => ?_)
  · replace h := h.1 q
    refine g_iconst (np := 18) (v := 0) B.1 dJ5_isLatin1_aae02_17 (by decide) rfl ?_
    exact g_iret B (ty := .boolean) rfl (by decide) (Nat.le_of_ble_eq_true rfl) (Nat.le_of_ble_eq_true rfl) dJ5_isLatin1_aae02_18 ⟨_, rfl, h⟩
  · replace h := h.2 q
    refine g_iconst (np := 14) (v := 1) B.1 dJ5_isLatin1_aae02_13 (by decide) rfl ?_
    refine g_goto (tgt := 18) B.1 dJ5_isLatin1_aae02_14 (by decide) ?_
    exact g_iret B (ty := .boolean) rfl (by decide) (Nat.le_of_ble_eq_true rfl) (Nat.le_of_ble_eq_true rfl) dJ5_isLatin1_aae02_18 ⟨_, rfl, h⟩
def wJ5_length_8abf5 (k : Nat)  (s0 : Mem) (Q : Int32 → Mem → Prop) (E : String → Mem → Prop) : Prop := Q (rd s0 13 k 3) s0
set_option maxRecDepth 20000 in
set_option maxHeartbeats 4000000 in
theorem oJ5_length_8abf5 {l : Launch} {x : Ctx} (hl : l.stackTraces = false) (k : Nat) (hk : k < oCnt x 13)   (s0 : Mem) (Q : Int32 → Mem → Prop) (E : String → Mem → Prop) (h : wJ5_length_8abf5 k  s0 Q E) : MetG l x yJ5_length_8abf5 cJ5_length_8abf5 1 (some .int) 0 0 0 0 [.ref (xad x 13 k)] s0 (RI Q) E := by
  refine MetG.of hl (by decide) (Nat.le_of_ble_eq_true rfl) [some (.ref (xad x 13 k))] rfl (fun K B hx _ => ?_)
  subst hx
  unfold wJ5_length_8abf5 at h
  refine g_aload_n (np := 1) B.1 dJ5_length_8abf5_0 rfl rfl ?_
  refine gf_java_lang_AbstractStringBuilder_79_13 (np := 4) B.1 k hk dJ5_length_8abf5_1 rfl ?_
  exact g_iret B (ty := .int) rfl rfl (Nat.le_of_ble_eq_true rfl) (Nat.le_of_ble_eq_true rfl) dJ5_length_8abf5_4 ⟨_, rfl, h⟩
def wJ4_length_8abf5 (k : Nat)  (s0 : Mem) (Q : Int32 → Mem → Prop) (E : String → Mem → Prop) : Prop := wJ5_length_8abf5 k  s0 (fun (r1 : Int32) (s2 : Mem) => s2 = s0 ∧ Q r1 s0) E
set_option maxRecDepth 20000 in
set_option maxHeartbeats 4000000 in
theorem oJ4_length_8abf5 {l : Launch} {x : Ctx} (hl : l.stackTraces = false) (k : Nat) (hk : k < oCnt x 13)   (s0 : Mem) (Q : Int32 → Mem → Prop) (E : String → Mem → Prop) (h : wJ4_length_8abf5 k  s0 Q E) : MetG l x yJ4_length_8abf5 cJ4_length_8abf5 1 (some .int) 1 20 0 0 [.ref (xad x 13 k)] s0 (RI Q) E := by
  refine MetG.of hl (by decide) (Nat.le_of_ble_eq_true rfl) [some (.ref (xad x 13 k))] rfl (fun K B hx _ => ?_)
  subst hx
  unfold wJ4_length_8abf5 at h
  refine g_aload_n (np := 1) B.1 dJ4_length_8abf5_0 rfl rfl ?_
  refine gc_java_lang_StringBuilder_343 (np := 4) B k hk (oJ5_length_8abf5 B.1.tr k hk   _ _ _ h) (Nat.le_of_ble_eq_true rfl) (Nat.le_of_ble_eq_true rfl) (Nat.le_of_ble_eq_true rfl) (Nat.le_of_ble_eq_true rfl) (Nat.le_of_ble_eq_true rfl) dJ4_length_8abf5_1 rfl (fun r1 s2 h => ?_)
  obtain ⟨es2, h⟩ := h
  rw [es2]
  exact g_iret B (ty := .int) rfl rfl (Nat.le_of_ble_eq_true rfl) (Nat.le_of_ble_eq_true rfl) dJ4_length_8abf5_4 ⟨_, rfl, h⟩
def wJ0_isLatin1_aae02  (a0 : Nat) (s0 : Mem) (Q : Int32 → Mem → Prop) (E : String → Mem → Prop) : Prop := Q 1 s0
set_option maxRecDepth 20000 in
set_option maxHeartbeats 4000000 in
theorem oJ0_isLatin1_aae02 {l : Launch} {x : Ctx} (hl : l.stackTraces = false)   (a0 : Nat) (ha0 : a0 < 18) (s0 : Mem) (Q : Int32 → Mem → Prop) (E : String → Mem → Prop) (h : wJ0_isLatin1_aae02  a0 s0 Q E) : MetG l x yJ0_isLatin1_aae02 cJ0_isLatin1_aae02 1 (some .boolean) 0 0 0 0 [.ref (xen x 3 a0)] s0 (RI Q) E := by
  refine MetG.of hl (by decide) (Nat.le_of_ble_eq_true rfl) [some (.ref (xen x 3 a0))] rfl (fun K B hx _ => ?_)
  subst hx
  unfold wJ0_isLatin1_aae02 at h
  refine g_compact (np := 3) B.1 b_199 dJ0_isLatin1_aae02_0 rfl ?_
  refine g_if_eq (np := 6) (tgt := 17) B.1 dJ0_isLatin1_aae02_3 (by decide) rfl (fun q => absurd q (by decide)) (fun _ => ?_)
  refine g_aload_n (np := 7) B.1 dJ0_isLatin1_aae02_6 rfl rfl ?_
  refine g_strC (np := 10) B.1 ha0 b_385 dJ0_isLatin1_aae02_7 rfl ?_
  refine g_if_ne (np := 13) (tgt := 17) B.1 dJ0_isLatin1_aae02_10 (by decide) rfl (fun q => absurd (by decide) q) (fun _ => ?_)
  refine g_iconst (np := 14) (v := 1) B.1 dJ0_isLatin1_aae02_13 (by decide) rfl ?_
  refine g_goto (tgt := 18) B.1 dJ0_isLatin1_aae02_14 (by decide) ?_
  exact g_iret B (ty := .boolean) rfl (by decide) (Nat.le_of_ble_eq_true rfl) (Nat.le_of_ble_eq_true rfl) dJ0_isLatin1_aae02_18 ⟨_, rfl, h⟩
def wJ0_coder_7d493  (a0 : Nat) (s0 : Mem) (Q : Int32 → Mem → Prop) (E : String → Mem → Prop) : Prop := Q 0 s0
set_option maxRecDepth 20000 in
set_option maxHeartbeats 4000000 in
theorem oJ0_coder_7d493 {l : Launch} {x : Ctx} (hl : l.stackTraces = false)   (a0 : Nat) (ha0 : a0 < 18) (s0 : Mem) (Q : Int32 → Mem → Prop) (E : String → Mem → Prop) (h : wJ0_coder_7d493  a0 s0 Q E) : MetG l x yJ0_coder_7d493 cJ0_coder_7d493 1 (some .byte) 0 0 0 0 [.ref (xen x 3 a0)] s0 (RI Q) E := by
  refine MetG.of hl (by decide) (Nat.le_of_ble_eq_true rfl) [some (.ref (xen x 3 a0))] rfl (fun K B hx _ => ?_)
  subst hx
  unfold wJ0_coder_7d493 at h
  refine g_compact (np := 3) B.1 b_199 dJ0_coder_7d493_0 rfl ?_
  refine g_if_eq (np := 6) (tgt := 13) B.1 dJ0_coder_7d493_3 (by decide) rfl (fun q => absurd q (by decide)) (fun _ => ?_)
  refine g_aload_n (np := 7) B.1 dJ0_coder_7d493_6 rfl rfl ?_
  refine g_strC (np := 10) B.1 ha0 b_385 dJ0_coder_7d493_7 rfl ?_
  refine g_goto (tgt := 14) B.1 dJ0_coder_7d493_10 (by decide) ?_
  exact g_iret B (ty := .byte) rfl (by decide) (Nat.le_of_ble_eq_true rfl) (Nat.le_of_ble_eq_true rfl) dJ0_coder_7d493_14 ⟨_, rfl, h⟩
def wJ0_length_8abf5  (a0 : Nat) (s0 : Mem) (Q : Int32 → Mem → Prop) (E : String → Mem → Prop) : Prop := wJ0_coder_7d493  a0 s0 (fun (r1 : Int32) (s2 : Mem) => s2 = s0 ∧ Q ((nI (stLen.getD a0 0)) >>> (r1 &&& 31)) s0) E
set_option maxRecDepth 20000 in
set_option maxHeartbeats 4000000 in
theorem oJ0_length_8abf5 {l : Launch} {x : Ctx} (hl : l.stackTraces = false)   (a0 : Nat) (ha0 : a0 < 18) (s0 : Mem) (Q : Int32 → Mem → Prop) (E : String → Mem → Prop) (h : wJ0_length_8abf5  a0 s0 Q E) : MetG l x yJ0_length_8abf5 cJ0_length_8abf5 1 (some .int) 1 20 0 0 [.ref (xen x 3 a0)] s0 (RI Q) E := by
  refine MetG.of hl (by decide) (Nat.le_of_ble_eq_true rfl) [some (.ref (xen x 3 a0))] rfl (fun K B hx _ => ?_)
  subst hx
  unfold wJ0_length_8abf5 at h
  refine g_aload_n (np := 1) B.1 dJ0_length_8abf5_0 rfl rfl ?_
  refine g_strV (np := 4) B.1 ha0 b_384 dJ0_length_8abf5_1 rfl ?_
  refine g_alenT (np := 5) B.1 ha0 dJ0_length_8abf5_4 rfl ?_
  refine g_aload_n (np := 6) B.1 dJ0_length_8abf5_5 rfl rfl ?_
  refine gc_java_lang_String_335 (np := 9) B  ha0 (oJ0_coder_7d493 B.1.tr   a0 ha0 _ _ _ h) (Nat.le_of_ble_eq_true rfl) (Nat.le_of_ble_eq_true rfl) (Nat.le_of_ble_eq_true rfl) (Nat.le_of_ble_eq_true rfl) (Nat.le_of_ble_eq_true rfl) dJ0_length_8abf5_6 rfl (fun r1 s2 h => ?_)
  obtain ⟨es2, h⟩ := h
  rw [es2]
  refine g_ishr (np := 10) B.1 dJ0_length_8abf5_9 rfl ?_
  exact g_iret B (ty := .int) rfl rfl (Nat.le_of_ble_eq_true rfl) (Nat.le_of_ble_eq_true rfl) dJ0_length_8abf5_10 ⟨_, rfl, h⟩
def wJ1_charAt_3b067  (a1 : Nat) (a2 : Int32) (s0 : Mem) (Q : Int32 → Mem → Prop) (E : String → Mem → Prop) : Prop := wJ0_checkIndex_df160  a2 (nI (stLen.getD a1 0)) s0 (fun (s2 : Mem) => s2 = s0 ∧ vp_in a2 (stLen.getD a1 0) ∧ narrow .char (.int (((((stByt.getD a1 []).getD a2.toNatClampNeg 0) &&& 255).toUInt32 % 65536).toInt32)) = .int (((((stByt.getD a1 []).getD a2.toNatClampNeg 0) &&& 255).toUInt32 % 65536).toInt32) ∧ Q (((((stByt.getD a1 []).getD a2.toNatClampNeg 0) &&& 255).toUInt32 % 65536).toInt32) s0) E
set_option maxRecDepth 20000 in
set_option maxHeartbeats 4000000 in
theorem oJ1_charAt_3b067 {l : Launch} {x : Ctx} (hl : l.stackTraces = false)   (a1 : Nat) (a2 : Int32) (ha1 : a1 < 18) (s0 : Mem) (Q : Int32 → Mem → Prop) (E : String → Mem → Prop) (h : wJ1_charAt_3b067  a1 a2 s0 Q E) : MetG l x yJ1_charAt_3b067 cJ1_charAt_3b067 2 (some .char) 2 51 0 0 [.ref (xen x 4 a1), .int a2] s0 (RI Q) E := by
  refine MetG.of hl (by decide) (Nat.le_of_ble_eq_true rfl) [some (.ref (xen x 4 a1)), some (.int a2)] rfl (fun K B hx _ => ?_)
  subst hx
  unfold wJ1_charAt_3b067 at h
  refine g_iload_n (np := 1) B.1 dJ1_charAt_3b067_0 rfl rfl ?_
  refine g_aload_n (np := 2) B.1 dJ1_charAt_3b067_1 rfl rfl ?_
  refine g_alenT (np := 3) B.1 ha1 dJ1_charAt_3b067_2 rfl ?_
  refine gc_java_lang_StringLatin1_9 (np := 6) B   (oJ0_checkIndex_df160 B.1.tr   a2 (nI (stLen.getD a1 0))  _ _ _ h) (Nat.le_of_ble_eq_true rfl) (Nat.le_of_ble_eq_true rfl) (Nat.le_of_ble_eq_true rfl) (Nat.le_of_ble_eq_true rfl) (Nat.le_of_ble_eq_true rfl) dJ1_charAt_3b067_3 rfl (fun s2 h => ?_)
  obtain ⟨es2, h⟩ := h
  rw [es2]
  refine g_aload_n (np := 7) B.1 dJ1_charAt_3b067_6 rfl rfl ?_
  refine g_iload_n (np := 8) B.1 dJ1_charAt_3b067_7 rfl rfl ?_
  refine g_baldT (np := 9) B.1 ha1 h.1 dJ1_charAt_3b067_8 rfl ?_
  replace h := h.2
  refine g_sipush (np := 12) (v := 255) B.1 dJ1_charAt_3b067_9 (by decide) rfl ?_
  refine g_iand (np := 13) B.1 dJ1_charAt_3b067_12 rfl ?_
  refine g_i2c (np := 14) B.1 dJ1_charAt_3b067_13 rfl rfl ?_
  exact g_iret B (ty := .char) rfl h.1 (Nat.le_of_ble_eq_true rfl) (Nat.le_of_ble_eq_true rfl) dJ1_charAt_3b067_14 ⟨_, rfl, h.2⟩
def wJ0_charAt_5068e  (a0 : Nat) (a1 : Int32) (s0 : Mem) (Q : Int32 → Mem → Prop) (E : String → Mem → Prop) : Prop := wJ0_isLatin1_aae02  a0 s0 (fun (r1 : Int32) (s2 : Mem) => s2 = s0 ∧ ((r1 = 0 → False) ∧ (¬ r1 = 0 → wJ1_charAt_3b067  a0 a1 s0 (fun (r3 : Int32) (s4 : Mem) => s4 = s0 ∧ narrow .char (.int r3) = .int r3 ∧ Q r3 s0) E))) E
set_option maxRecDepth 20000 in
set_option maxHeartbeats 4000000 in
theorem oJ0_charAt_5068e {l : Launch} {x : Ctx} (hl : l.stackTraces = false)   (a0 : Nat) (a1 : Int32) (ha0 : a0 < 18) (s0 : Mem) (Q : Int32 → Mem → Prop) (E : String → Mem → Prop) (h : wJ0_charAt_5068e  a0 a1 s0 Q E) : MetG l x yJ0_charAt_5068e cJ0_charAt_5068e 2 (some .char) 3 72 0 0 [.ref (xen x 3 a0), .int a1] s0 (RI Q) E := by
  refine MetG.of hl (by decide) (Nat.le_of_ble_eq_true rfl) [some (.ref (xen x 3 a0)), some (.int a1)] rfl (fun K B hx _ => ?_)
  subst hx
  unfold wJ0_charAt_5068e at h
  refine g_aload_n (np := 1) B.1 dJ0_charAt_5068e_0 rfl rfl ?_
  refine gc_java_lang_String_492 (np := 4) B  ha0 (oJ0_isLatin1_aae02 B.1.tr   a0 ha0 _ _ _ h) (Nat.le_of_ble_eq_true rfl) (Nat.le_of_ble_eq_true rfl) (Nat.le_of_ble_eq_true rfl) (Nat.le_of_ble_eq_true rfl) (Nat.le_of_ble_eq_true rfl) dJ0_charAt_5068e_1 rfl (fun r1 s2 h => ?_)
  obtain ⟨es2, h⟩ := h
  rw [es2]
  refine g_if_eq (np := 7) (tgt := 16) B.1 dJ0_charAt_5068e_4 (by decide) rfl (fun q => ?_) (fun q => ?_)
  · replace h := h.1 q
    exact h.elim
  · replace h := h.2 q
    refine g_aload_n (np := 8) B.1 dJ0_charAt_5068e_7 rfl rfl ?_
    refine g_strV (np := 11) B.1 ha0 b_384 dJ0_charAt_5068e_8 rfl ?_
    refine g_iload_n (np := 12) B.1 dJ0_charAt_5068e_11 rfl rfl ?_
    refine gc_java_lang_String_495 (np := 15) B   (oJ1_charAt_3b067 B.1.tr   a0 a1 ha0 _ _ _ h) (Nat.le_of_ble_eq_true rfl) (Nat.le_of_ble_eq_true rfl) (Nat.le_of_ble_eq_true rfl) (Nat.le_of_ble_eq_true rfl) (Nat.le_of_ble_eq_true rfl) dJ0_charAt_5068e_12 rfl (fun r3 s4 h => ?_)
    obtain ⟨es4, h⟩ := h
    rw [es4]
    exact g_iret B (ty := .char) rfl h.1 (Nat.le_of_ble_eq_true rfl) (Nat.le_of_ble_eq_true rfl) dJ0_charAt_5068e_15 ⟨_, rfl, h.2⟩
def wJ5_charAt_5068e (k : Nat) (a1 : Int32) (s0 : Mem) (Q : Int32 → Mem → Prop) (E : String → Mem → Prop) : Prop := ∀ v2_1 : Int32, v2_1 = (rd s0 13 k 1) → ∀ v4_2 : Int32, v4_2 = (if ((nI (s0.2.2.1 k)) >>> (v2_1 &&& 31)) < (rd s0 13 k 3) then ((nI (s0.2.2.1 k)) >>> (v2_1 &&& 31)) else (rd s0 13 k 3)) → wJ0_checkIndex_df160  a1 v4_2 s0 (fun (s4 : Mem) => s4 = s0 ∧ ((¬ v2_1 = 0 → False) ∧ (v2_1 = 0 → vp_in a1 (s0.2.2.1 k) ∧ narrow .char (.int ((((rd s0 16 k a1.toNatClampNeg) &&& 255).toUInt32 % 65536).toInt32)) = .int ((((rd s0 16 k a1.toNatClampNeg) &&& 255).toUInt32 % 65536).toInt32) ∧ Q ((((rd s0 16 k a1.toNatClampNeg) &&& 255).toUInt32 % 65536).toInt32) s0))) E
set_option maxRecDepth 20000 in
set_option maxHeartbeats 4000000 in
theorem oJ5_charAt_5068e {l : Launch} {x : Ctx} (hl : l.stackTraces = false) (k : Nat) (hk : k < oCnt x 13) (a1 : Int32)  (s0 : Mem) (Q : Int32 → Mem → Prop) (E : String → Mem → Prop) (h : wJ5_charAt_5068e k a1 s0 Q E) : MetG l x yJ5_charAt_5068e cJ5_charAt_5068e 5 (some .char) 2 51 0 0 [.ref (xad x 13 k), .int a1] s0 (RI Q) E := by
  refine MetG.of hl (by decide) (Nat.le_of_ble_eq_true rfl) [some (.ref (xad x 13 k)), some (.int a1), none, none, none] rfl (fun K B hx _ => ?_)
  subst hx
  unfold wJ5_charAt_5068e at h
  refine g_aload_n (np := 1) B.1 dJ5_charAt_5068e_0 rfl rfl ?_
  refine gf_java_lang_AbstractStringBuilder_22_13 (np := 4) B.1 k hk dJ5_charAt_5068e_1 rfl ?_
  refine g_topi (fun v2_1 ev2_1 => ?_)
  replace h := h v2_1 ev2_1
  refine g_istore_n (np := 5) (lv' := [some (.ref (xad (fX K) 13 k)), some (.int a1), some (.int v2_1), none, none]) B.1 dJ5_charAt_5068e_4 (by decide) rfl rfl rfl ?_
  refine g_aload_n (np := 6) B.1 dJ5_charAt_5068e_5 rfl rfl ?_
  refine gf_java_lang_AbstractStringBuilder_15_13 (np := 9) B.1 k hk dJ5_charAt_5068e_6 rfl ?_
  refine g_astore_n (np := 10) (lv' := [some (.ref (xad (fX K) 13 k)), some (.int a1), some (.int v2_1), some (.ref (s0.2.1 k)), none]) B.1 dJ5_charAt_5068e_9 (by decide) rfl rfl rfl ?_
  refine g_aload_n (np := 11) B.1 dJ5_charAt_5068e_10 rfl rfl ?_
  refine gf_java_lang_AbstractStringBuilder_79_13 (np := 14) B.1 k hk dJ5_charAt_5068e_11 rfl ?_
  refine g_aload_n (np := 15) B.1 dJ5_charAt_5068e_14 rfl rfl ?_
  refine g_alenB (np := 16) B.1 k hk dJ5_charAt_5068e_15 rfl ?_
  refine g_iload_n (np := 17) B.1 dJ5_charAt_5068e_16 rfl rfl ?_
  refine g_ishr (np := 18) B.1 dJ5_charAt_5068e_17 rfl ?_
  refine g_mmin (np := 21) B.1 b_1385 b_155 b_30 b_156 (by rw [B.2.1]; exact Nat.le_of_ble_eq_true rfl) (by rw [B.2.1]; exact Nat.le_of_ble_eq_true rfl) (by rw [B.2.1]; exact (Nat.le_of_ble_eq_true rfl)) (by rw [B.2.1]; exact (Nat.le_of_ble_eq_true rfl)) dJ5_charAt_5068e_18 rfl ?_
  refine g_topi (fun v4_2 ev4_2 => ?_)
  replace h := h v4_2 ev4_2
  refine g_istore (np := 23) (lv' := [some (.ref (xad (fX K) 13 k)), some (.int a1), some (.int v2_1), some (.ref (s0.2.1 k)), some (.int v4_2)]) B.1 dJ5_charAt_5068e_21 (by decide) rfl rfl rfl ?_
  refine g_iload_n (np := 24) B.1 dJ5_charAt_5068e_23 rfl rfl ?_
  refine g_iload (np := 26) B.1 dJ5_charAt_5068e_24 rfl rfl ?_
  refine gc_java_lang_AbstractStringBuilder_144 (np := 29) B   (oJ0_checkIndex_df160 B.1.tr   a1 v4_2  _ _ _ h) (Nat.le_of_ble_eq_true rfl) (Nat.le_of_ble_eq_true rfl) (Nat.le_of_ble_eq_true rfl) (Nat.le_of_ble_eq_true rfl) (Nat.le_of_ble_eq_true rfl) dJ5_charAt_5068e_26 rfl (fun s4 h => ?_)
  obtain ⟨es4, h⟩ := h
  rw [es4]
  refine g_iload_n (np := 30) B.1 dJ5_charAt_5068e_29 rfl rfl ?_
  refine g_if_ne (np := 33) (tgt := 42) B.1 dJ5_charAt_5068e_30 (by decide) rfl (fun q => ?_) (fun q => ?_)
  · replace h := h.1 q
    exact h.elim
  · replace h := h.2 q
    refine g_aload_n (np := 34) B.1 dJ5_charAt_5068e_33 rfl rfl ?_
    refine g_iload_n (np := 35) B.1 dJ5_charAt_5068e_34 rfl rfl ?_
    refine g_bald (np := 36) B.1 k hk h.1 dJ5_charAt_5068e_35 rfl ?_
    replace h := h.2
    refine g_sipush (np := 39) (v := 255) B.1 dJ5_charAt_5068e_36 (by decide) rfl ?_
    refine g_iand (np := 40) B.1 dJ5_charAt_5068e_39 rfl ?_
    refine g_i2c (np := 41) B.1 dJ5_charAt_5068e_40 rfl rfl ?_
    exact g_iret B (ty := .char) rfl h.1 (Nat.le_of_ble_eq_true rfl) (Nat.le_of_ble_eq_true rfl) dJ5_charAt_5068e_41 ⟨_, rfl, h.2⟩
def wJ4_charAt_5068e (k : Nat) (a1 : Int32) (s0 : Mem) (Q : Int32 → Mem → Prop) (E : String → Mem → Prop) : Prop := wJ5_charAt_5068e k a1 s0 (fun (r1 : Int32) (s2 : Mem) => s2 = s0 ∧ narrow .char (.int r1) = .int r1 ∧ Q r1 s0) E
set_option maxRecDepth 20000 in
set_option maxHeartbeats 4000000 in
theorem oJ4_charAt_5068e {l : Launch} {x : Ctx} (hl : l.stackTraces = false) (k : Nat) (hk : k < oCnt x 13) (a1 : Int32)  (s0 : Mem) (Q : Int32 → Mem → Prop) (E : String → Mem → Prop) (h : wJ4_charAt_5068e k a1 s0 Q E) : MetG l x yJ4_charAt_5068e cJ4_charAt_5068e 2 (some .char) 3 75 0 0 [.ref (xad x 13 k), .int a1] s0 (RI Q) E := by
  refine MetG.of hl (by decide) (Nat.le_of_ble_eq_true rfl) [some (.ref (xad x 13 k)), some (.int a1)] rfl (fun K B hx _ => ?_)
  subst hx
  unfold wJ4_charAt_5068e at h
  refine g_aload_n (np := 1) B.1 dJ4_charAt_5068e_0 rfl rfl ?_
  refine g_iload_n (np := 2) B.1 dJ4_charAt_5068e_1 rfl rfl ?_
  refine gc_java_lang_StringBuilder_329 (np := 5) B k hk (oJ5_charAt_5068e B.1.tr k hk a1  _ _ _ h) (Nat.le_of_ble_eq_true rfl) (Nat.le_of_ble_eq_true rfl) (Nat.le_of_ble_eq_true rfl) (Nat.le_of_ble_eq_true rfl) (Nat.le_of_ble_eq_true rfl) dJ4_charAt_5068e_2 rfl (fun r1 s2 h => ?_)
  obtain ⟨es2, h⟩ := h
  rw [es2]
  exact g_iret B (ty := .char) rfl h.1 (Nat.le_of_ble_eq_true rfl) (Nat.le_of_ble_eq_true rfl) dJ4_charAt_5068e_5 ⟨_, rfl, h.2⟩
def wJ8_newLength_cabcc  (a1 : Int32) (a2 : Int32) (a3 : Int32) (s0 : Mem) (Q : Int32 → Mem → Prop) (E : String → Mem → Prop) : Prop := ∀ v3_1 : Int32, v3_1 = (a1 + (if a2 < a3 then a3 else a2)) → ((v3_1 ≤ 0 → False) ∧ (¬ v3_1 ≤ 0 → ((2147483639 < v3_1 → False) ∧ (¬ 2147483639 < v3_1 → Q v3_1 s0))))
set_option maxRecDepth 20000 in
set_option maxHeartbeats 4000000 in
theorem oJ8_newLength_cabcc {l : Launch} {x : Ctx} (hl : l.stackTraces = false)   (a1 : Int32) (a2 : Int32) (a3 : Int32)  (s0 : Mem) (Q : Int32 → Mem → Prop) (E : String → Mem → Prop) (h : wJ8_newLength_cabcc  a1 a2 a3 s0 Q E) : MetG l x yJ8_newLength_cabcc cJ8_newLength_cabcc 4 (some .int) 1 14 0 0 [.int a1, .int a2, .int a3] s0 (RI Q) E := by
  refine MetG.of hl (by decide) (Nat.le_of_ble_eq_true rfl) [some (.int a1), some (.int a2), some (.int a3), none] rfl (fun K B hx _ => ?_)
  subst hx
  unfold wJ8_newLength_cabcc at h
  refine g_iload_n (np := 1) B.1 dJ8_newLength_cabcc_0 rfl rfl ?_
  refine g_iload_n (np := 2) B.1 dJ8_newLength_cabcc_1 rfl rfl ?_
  refine g_iload_n (np := 3) B.1 dJ8_newLength_cabcc_2 rfl rfl ?_
  refine g_mmax (np := 6) B.1 b_136 b_137 b_30 b_138 (by rw [B.2.1]; exact Nat.le_of_ble_eq_true rfl) (by rw [B.2.1]; exact Nat.le_of_ble_eq_true rfl) (by rw [B.2.1]; exact (Nat.le_of_ble_eq_true rfl)) (by rw [B.2.1]; exact (Nat.le_of_ble_eq_true rfl)) dJ8_newLength_cabcc_3 rfl ?_
  refine g_iadd (np := 7) B.1 dJ8_newLength_cabcc_6 rfl ?_
  refine g_topi (fun v3_1 ev3_1 => ?_)
  replace h := h v3_1 ev3_1
  refine g_istore_n (np := 8) (lv' := [some (.int a1), some (.int a2), some (.int a3), some (.int v3_1)]) B.1 dJ8_newLength_cabcc_7 (by decide) rfl rfl rfl ?_
  refine g_iconst (np := 9) (v := 0) B.1 dJ8_newLength_cabcc_8 (by decide) rfl ?_
  refine g_iload_n (np := 10) B.1 dJ8_newLength_cabcc_9 rfl rfl ?_
  refine g_icmp_ge (np := 13) (tgt := 21) B.1 dJ8_newLength_cabcc_10 (by decide) rfl (fun q => ?_) (fun q => ?_)
  · replace h := h.1 q
    exact h.elim
  · replace h := h.2 q
    refine g_iload_n (np := 14) B.1 dJ8_newLength_cabcc_13 rfl rfl ?_
    refine g_ldc (np := 16) (v := 2147483639) B.1 b_139 dJ8_newLength_cabcc_14 rfl ?_
    refine g_icmp_gt (np := 19) (tgt := 21) B.1 dJ8_newLength_cabcc_16 (by decide) rfl (fun q => ?_) (fun q => ?_)
    · replace h := h.1 q
      exact h.elim
    · replace h := h.2 q
      refine g_iload_n (np := 20) B.1 dJ8_newLength_cabcc_19 rfl rfl ?_
      exact g_iret B (ty := .int) rfl rfl (Nat.le_of_ble_eq_true rfl) (Nat.le_of_ble_eq_true rfl) dJ8_newLength_cabcc_20 ⟨_, rfl, h⟩
def wJ5_newCapacity_0f7a4 (k : Nat) (a1 : Int32) (s0 : Mem) (Q : Int32 → Mem → Prop) (E : String → Mem → Prop) : Prop := ∀ v2_1 : Int32, v2_1 = (nI (s0.2.2.1 k)) → ∀ v3_2 : Int32, v3_2 = (a1 <<< ((rd s0 13 k 1) &&& 31)) → ∀ v4_3 : Int32, v4_3 = (v3_2 - v2_1) → wJ8_newLength_cabcc  v2_1 v4_3 (v2_1 + (2 <<< ((rd s0 13 k 1) &&& 31))) s0 (fun (r4 : Int32) (s5 : Mem) => s5 = s0 ∧ ((¬ r4 = 2147483647 → Q (r4 >>> ((rd s0 13 k 1) &&& 31)) s0) ∧ (r4 = 2147483647 → False))) E
set_option maxRecDepth 20000 in
set_option maxHeartbeats 4000000 in
theorem oJ5_newCapacity_0f7a4 {l : Launch} {x : Ctx} (hl : l.stackTraces = false) (k : Nat) (hk : k < oCnt x 13) (a1 : Int32)  (s0 : Mem) (Q : Int32 → Mem → Prop) (E : String → Mem → Prop) (h : wJ5_newCapacity_0f7a4 k a1 s0 Q E) : MetG l x yJ5_newCapacity_0f7a4 cJ5_newCapacity_0f7a4 6 (some .int) 2 37 0 0 [.ref (xad x 13 k), .int a1] s0 (RI Q) E := by
  refine MetG.of hl (by decide) (Nat.le_of_ble_eq_true rfl) [some (.ref (xad x 13 k)), some (.int a1), none, none, none, none] rfl (fun K B hx _ => ?_)
  subst hx
  unfold wJ5_newCapacity_0f7a4 at h
  refine g_aload_n (np := 1) B.1 dJ5_newCapacity_0f7a4_0 rfl rfl ?_
  refine gf_java_lang_AbstractStringBuilder_15_13 (np := 4) B.1 k hk dJ5_newCapacity_0f7a4_1 rfl ?_
  refine g_alenB (np := 5) B.1 k hk dJ5_newCapacity_0f7a4_4 rfl ?_
  refine g_topi (fun v2_1 ev2_1 => ?_)
  replace h := h v2_1 ev2_1
  refine g_istore_n (np := 6) (lv' := [some (.ref (xad (fX K) 13 k)), some (.int a1), some (.int v2_1), none, none, none]) B.1 dJ5_newCapacity_0f7a4_5 (by decide) rfl rfl rfl ?_
  refine g_iload_n (np := 7) B.1 dJ5_newCapacity_0f7a4_6 rfl rfl ?_
  refine g_aload_n (np := 8) B.1 dJ5_newCapacity_0f7a4_7 rfl rfl ?_
  refine gf_java_lang_AbstractStringBuilder_22_13 (np := 11) B.1 k hk dJ5_newCapacity_0f7a4_8 rfl ?_
  refine g_ishl (np := 12) B.1 dJ5_newCapacity_0f7a4_11 rfl ?_
  refine g_topi (fun v3_2 ev3_2 => ?_)
  replace h := h v3_2 ev3_2
  refine g_istore_n (np := 13) (lv' := [some (.ref (xad (fX K) 13 k)), some (.int a1), some (.int v2_1), some (.int v3_2), none, none]) B.1 dJ5_newCapacity_0f7a4_12 (by decide) rfl rfl rfl ?_
  refine g_iload_n (np := 14) B.1 dJ5_newCapacity_0f7a4_13 rfl rfl ?_
  refine g_iload_n (np := 15) B.1 dJ5_newCapacity_0f7a4_14 rfl rfl ?_
  refine g_isub (np := 16) B.1 dJ5_newCapacity_0f7a4_15 rfl ?_
  refine g_topi (fun v4_3 ev4_3 => ?_)
  replace h := h v4_3 ev4_3
  refine g_istore (np := 18) (lv' := [some (.ref (xad (fX K) 13 k)), some (.int a1), some (.int v2_1), some (.int v3_2), some (.int v4_3), none]) B.1 dJ5_newCapacity_0f7a4_16 (by decide) rfl rfl rfl ?_
  refine g_iload_n (np := 19) B.1 dJ5_newCapacity_0f7a4_18 rfl rfl ?_
  refine g_iload (np := 21) B.1 dJ5_newCapacity_0f7a4_19 rfl rfl ?_
  refine g_iload_n (np := 22) B.1 dJ5_newCapacity_0f7a4_21 rfl rfl ?_
  refine g_iconst (np := 23) (v := 2) B.1 dJ5_newCapacity_0f7a4_22 (by decide) rfl ?_
  refine g_aload_n (np := 24) B.1 dJ5_newCapacity_0f7a4_23 rfl rfl ?_
  refine gf_java_lang_AbstractStringBuilder_22_13 (np := 27) B.1 k hk dJ5_newCapacity_0f7a4_24 rfl ?_
  refine g_ishl (np := 28) B.1 dJ5_newCapacity_0f7a4_27 rfl ?_
  refine g_iadd (np := 29) B.1 dJ5_newCapacity_0f7a4_28 rfl ?_
  refine gc_java_lang_AbstractStringBuilder_114 (np := 32) B   (oJ8_newLength_cabcc B.1.tr   v2_1 v4_3 (v2_1 + (2 <<< ((rd s0 13 k 1) &&& 31)))  _ _ _ h) (Nat.le_of_ble_eq_true rfl) (Nat.le_of_ble_eq_true rfl) (Nat.le_of_ble_eq_true rfl) (Nat.le_of_ble_eq_true rfl) (Nat.le_of_ble_eq_true rfl) dJ5_newCapacity_0f7a4_29 rfl (fun r4 s5 h => ?_)
  obtain ⟨es5, h⟩ := h
  rw [es5]
  refine g_istore (np := 34) (lv' := [some (.ref (xad (fX K) 13 k)), some (.int a1), some (.int v2_1), some (.int v3_2), some (.int v4_3), some (.int r4)]) B.1 dJ5_newCapacity_0f7a4_32 (by decide) rfl rfl rfl ?_
  refine g_iload (np := 36) B.1 dJ5_newCapacity_0f7a4_34 rfl rfl ?_
  refine g_ldc (np := 38) (v := 2147483647) B.1 b_143 dJ5_newCapacity_0f7a4_36 rfl ?_
  refine g_icmp_ne (np := 41) (tgt := 51) B.1 dJ5_newCapacity_0f7a4_38 (by decide) rfl (fun q => ?_) (fun q => ?_)
  · replace h := h.1 q
    refine g_iload (np := 53) B.1 dJ5_newCapacity_0f7a4_51 rfl rfl ?_
    refine g_aload_n (np := 54) B.1 dJ5_newCapacity_0f7a4_53 rfl rfl ?_
    refine gf_java_lang_AbstractStringBuilder_22_13 (np := 57) B.1 k hk dJ5_newCapacity_0f7a4_54 rfl ?_
    refine g_ishr (np := 58) B.1 dJ5_newCapacity_0f7a4_57 rfl ?_
    exact g_iret B (ty := .int) rfl rfl (Nat.le_of_ble_eq_true rfl) (Nat.le_of_ble_eq_true rfl) dJ5_newCapacity_0f7a4_58 ⟨_, rfl, h⟩
  · replace h := h.2 q
    exact h.elim
def wJ6_stringSize_0f7a4_16   (Q : Int32 → Mem → Prop) (E : String → Mem → Prop)  (X27 : Int32 → Int32 → Mem → Prop) (X42 : Int32 → Mem → Prop) : Nat → Int32 → Int32 → Int32 → Int32 → Mem → Prop
  | 0, _, _, _, _, _ => False
  | n16 + 1, v0, v1, v2, v3, s0 => ((10 ≤ v3 → X42 v1 s0) ∧ (¬ 10 ≤ v3 → ((v0 ≤ v2 → ∀ v2_1 : Int32, v2_1 = (10 * v2) → ∀ v3_2 : Int32, v3_2 = (v3 + 1) → wJ6_stringSize_0f7a4_16   Q E X27 X42 n16 v0 v1 v2_1 v3_2 s0) ∧ (¬ v0 ≤ v2 → X27 v1 v3 s0))))
def wJ6_stringSize_0f7a4  (a1 : Int32) (s0 : Mem) (Q : Int32 → Mem → Prop) (E : String → Mem → Prop) : Prop := ((a1 < 0 → ∃ m8 : Nat, wJ6_stringSize_0f7a4_16   Q E (fun (x1_3 : Int32) (x3_4 : Int32) (s5 : Mem) => Q (x3_4 + x1_3) s5) (fun (x1_6 : Int32) (s7 : Mem) => Q (10 + x1_6) s7) m8 a1 1 ((-10)) 1  s0) ∧ (¬ a1 < 0 → ∀ v0_9 : Int32, v0_9 = (-a1) → ∃ m15 : Nat, wJ6_stringSize_0f7a4_16   Q E (fun (x1_10 : Int32) (x3_11 : Int32) (s12 : Mem) => Q (x3_11 + x1_10) s12) (fun (x1_13 : Int32) (s14 : Mem) => Q (10 + x1_13) s14) m15 v0_9 0 ((-10)) 1  s0))
set_option maxRecDepth 20000 in
set_option maxHeartbeats 4000000 in
theorem oJ6_stringSize_0f7a4_16 {K : Fr} {Q : Int32 → Mem → Prop} {E : String → Mem → Prop} (B : Bd K cJ6_stringSize_0f7a4 "java/lang/Integer" 4 (some .int) 0 0 0 0 (RI Q) E)    {X27 : Int32 → Int32 → Mem → Prop} {X42 : Int32 → Mem → Prop} {cells slots : Nat} (hX27 : ∀ (y1 : Int32) (y3 : Int32) (τ : Mem), X27 y1 y3 τ → Go K cells slots τ 27 [none, some (.int y1), none, some (.int y3)] ([])) (hX42 : ∀ (y1 : Int32) (τ : Mem), X42 y1 τ → Go K cells slots τ 42 [none, some (.int y1), none, none] ([])) (hc : cells ≤ 0) (hs : slots ≤ 0) : ∀ (n : Nat) (v0 : Int32) (v1 : Int32) (v2 : Int32) (v3 : Int32) (s0 : Mem), wJ6_stringSize_0f7a4_16   Q E X27 X42 n v0 v1 v2 v3 s0 → Go K cells slots s0 16 [some (.int v0), some (.int v1), some (.int v2), some (.int v3)] ([]) := by
  intro n
  induction n with
  | zero => intro v0 v1 v2 v3 s0 h; exact absurd h (by simp [wJ6_stringSize_0f7a4_16])
  | succ n ih =>
    intro v0 v1 v2 v3 s0 h
    simp only [wJ6_stringSize_0f7a4_16] at h
    refine g_iload_n (np := 17) B.1 dJ6_stringSize_0f7a4_16 rfl rfl ?_
    refine g_bipush (np := 19) (v := 10) B.1 dJ6_stringSize_0f7a4_17 (by decide) rfl ?_
    refine g_icmp_ge (np := 22) (tgt := 42) B.1 dJ6_stringSize_0f7a4_19 (by decide) rfl (fun q => ?_) (fun q => ?_)
    · replace h := h.1 q
      refine Go.lle [none, some (.int v1), none, none] (by simp [lle]) ?_
      exact hX42 v1 s0 h
    · replace h := h.2 q
      refine g_iload_n (np := 23) B.1 dJ6_stringSize_0f7a4_22 rfl rfl ?_
      refine g_iload_n (np := 24) B.1 dJ6_stringSize_0f7a4_23 rfl rfl ?_
      refine g_icmp_le (np := 27) (tgt := 31) B.1 dJ6_stringSize_0f7a4_24 (by decide) rfl (fun q => ?_) (fun q => ?_)
      · replace h := h.1 q
        refine g_bipush (np := 33) (v := 10) B.1 dJ6_stringSize_0f7a4_31 (by decide) rfl ?_
        refine g_iload_n (np := 34) B.1 dJ6_stringSize_0f7a4_33 rfl rfl ?_
        refine g_imul (np := 35) B.1 dJ6_stringSize_0f7a4_34 rfl ?_
        refine g_topi (fun v2_1 ev2_1 => ?_)
        replace h := h v2_1 ev2_1
        refine g_istore_n (np := 36) (lv' := [some (.int v0), some (.int v1), some (.int v2_1), some (.int v3)]) B.1 dJ6_stringSize_0f7a4_35 (by decide) rfl rfl rfl ?_
        obtain ⟨v3_2, ev3_2⟩ : ∃ y : Int32, y = v3 + 1 := ⟨_, rfl⟩
        replace h := h v3_2 ev3_2
        refine g_iinc (np := 39) (v := v3_2) (lv' := [some (.int v0), some (.int v1), some (.int v2_1), some (.int v3_2)]) B.1 dJ6_stringSize_0f7a4_36 rfl (by rw [ev3_2]; rfl) (by decide) rfl rfl rfl ?_
        refine g_goto (tgt := 16) B.1 dJ6_stringSize_0f7a4_39 (by decide) ?_
        refine Go.lle [some (.int v0), some (.int v1), some (.int v2_1), some (.int v3_2)] (by simp [lle]) ?_
        exact ih v0 v1 v2_1 v3_2 s0 h
      · replace h := h.2 q
        refine Go.lle [none, some (.int v1), none, some (.int v3)] (by simp [lle]) ?_
        exact hX27 v1 v3 s0 h
set_option maxRecDepth 20000 in
set_option maxHeartbeats 4000000 in
theorem oJ6_stringSize_0f7a4 {l : Launch} {x : Ctx} (hl : l.stackTraces = false)   (a1 : Int32)  (s0 : Mem) (Q : Int32 → Mem → Prop) (E : String → Mem → Prop) (h : wJ6_stringSize_0f7a4  a1 s0 Q E) : MetG l x yJ6_stringSize_0f7a4 cJ6_stringSize_0f7a4 4 (some .int) 0 0 0 0 [.int a1] s0 (RI Q) E := by
  refine MetG.of hl (by decide) (Nat.le_of_ble_eq_true rfl) [some (.int a1), none, none, none] rfl (fun K B hx _ => ?_)
  subst hx
  unfold wJ6_stringSize_0f7a4 at h
  refine g_iconst (np := 1) (v := 1) B.1 dJ6_stringSize_0f7a4_0 (by decide) rfl ?_
  refine g_istore_n (np := 2) (lv' := [some (.int a1), some (.int 1), none, none]) B.1 dJ6_stringSize_0f7a4_1 (by decide) rfl rfl rfl ?_
  refine g_iload_n (np := 3) B.1 dJ6_stringSize_0f7a4_2 rfl rfl ?_
  refine g_if_lt (np := 6) (tgt := 11) B.1 dJ6_stringSize_0f7a4_3 (by decide) rfl (fun q => ?_) (fun q => ?_)
  · replace h := h.1 q
    refine g_bipush (np := 13) (v := (-10)) B.1 dJ6_stringSize_0f7a4_11 (by decide) rfl ?_
    refine g_istore_n (np := 14) (lv' := [some (.int a1), some (.int 1), some (.int ((-10))), none]) B.1 dJ6_stringSize_0f7a4_13 (by decide) rfl rfl rfl ?_
    refine g_iconst (np := 15) (v := 1) B.1 dJ6_stringSize_0f7a4_14 (by decide) rfl ?_
    refine g_istore_n (np := 16) (lv' := [some (.int a1), some (.int 1), some (.int ((-10))), some (.int 1)]) B.1 dJ6_stringSize_0f7a4_15 (by decide) rfl rfl rfl ?_
    obtain ⟨m8, h⟩ := h
    refine Go.lle [some (.int a1), some (.int 1), some (.int ((-10))), some (.int 1)] (by simp [lle]) ?_
    refine oJ6_stringSize_0f7a4_16 B    (fun x1_3 x3_4 s5 h => ?_) (fun x1_6 s7 h => ?_) (Nat.le_of_ble_eq_true rfl) (Nat.le_of_ble_eq_true rfl) m8 a1 1 ((-10)) 1  s0 h
    · refine g_iload_n (np := 28) B.1 dJ6_stringSize_0f7a4_27 rfl rfl ?_
      refine g_iload_n (np := 29) B.1 dJ6_stringSize_0f7a4_28 rfl rfl ?_
      refine g_iadd (np := 30) B.1 dJ6_stringSize_0f7a4_29 rfl ?_
      exact g_iret B (ty := .int) rfl rfl (Nat.le_of_ble_eq_true rfl) (Nat.le_of_ble_eq_true rfl) dJ6_stringSize_0f7a4_30 ⟨_, rfl, h⟩
    · refine g_bipush (np := 44) (v := 10) B.1 dJ6_stringSize_0f7a4_42 (by decide) rfl ?_
      refine g_iload_n (np := 45) B.1 dJ6_stringSize_0f7a4_44 rfl rfl ?_
      refine g_iadd (np := 46) B.1 dJ6_stringSize_0f7a4_45 rfl ?_
      exact g_iret B (ty := .int) rfl rfl (Nat.le_of_ble_eq_true rfl) (Nat.le_of_ble_eq_true rfl) dJ6_stringSize_0f7a4_46 ⟨_, rfl, h⟩
  · replace h := h.2 q
    refine g_iconst (np := 7) (v := 0) B.1 dJ6_stringSize_0f7a4_6 (by decide) rfl ?_
    refine g_istore_n (np := 8) (lv' := [some (.int a1), some (.int 0), none, none]) B.1 dJ6_stringSize_0f7a4_7 (by decide) rfl rfl rfl ?_
    refine g_iload_n (np := 9) B.1 dJ6_stringSize_0f7a4_8 rfl rfl ?_
    refine g_ineg (np := 10) B.1 dJ6_stringSize_0f7a4_9 rfl ?_
    refine g_topi (fun v0_9 ev0_9 => ?_)
    replace h := h v0_9 ev0_9
    refine g_istore_n (np := 11) (lv' := [some (.int v0_9), some (.int 0), none, none]) B.1 dJ6_stringSize_0f7a4_10 (by decide) rfl rfl rfl ?_
    refine g_bipush (np := 13) (v := (-10)) B.1 dJ6_stringSize_0f7a4_11 (by decide) rfl ?_
    refine g_istore_n (np := 14) (lv' := [some (.int v0_9), some (.int 0), some (.int ((-10))), none]) B.1 dJ6_stringSize_0f7a4_13 (by decide) rfl rfl rfl ?_
    refine g_iconst (np := 15) (v := 1) B.1 dJ6_stringSize_0f7a4_14 (by decide) rfl ?_
    refine g_istore_n (np := 16) (lv' := [some (.int v0_9), some (.int 0), some (.int ((-10))), some (.int 1)]) B.1 dJ6_stringSize_0f7a4_15 (by decide) rfl rfl rfl ?_
    obtain ⟨m15, h⟩ := h
    refine Go.lle [some (.int v0_9), some (.int 0), some (.int ((-10))), some (.int 1)] (by simp [lle]) ?_
    refine oJ6_stringSize_0f7a4_16 B    (fun x1_10 x3_11 s12 h => ?_) (fun x1_13 s14 h => ?_) (Nat.le_of_ble_eq_true rfl) (Nat.le_of_ble_eq_true rfl) m15 v0_9 0 ((-10)) 1  s0 h
    · refine g_iload_n (np := 28) B.1 dJ6_stringSize_0f7a4_27 rfl rfl ?_
      refine g_iload_n (np := 29) B.1 dJ6_stringSize_0f7a4_28 rfl rfl ?_
      refine g_iadd (np := 30) B.1 dJ6_stringSize_0f7a4_29 rfl ?_
      exact g_iret B (ty := .int) rfl rfl (Nat.le_of_ble_eq_true rfl) (Nat.le_of_ble_eq_true rfl) dJ6_stringSize_0f7a4_30 ⟨_, rfl, h⟩
    · refine g_bipush (np := 44) (v := 10) B.1 dJ6_stringSize_0f7a4_42 (by decide) rfl ?_
      refine g_iload_n (np := 45) B.1 dJ6_stringSize_0f7a4_44 rfl rfl ?_
      refine g_iadd (np := 46) B.1 dJ6_stringSize_0f7a4_45 rfl ?_
      exact g_iret B (ty := .int) rfl rfl (Nat.le_of_ble_eq_true rfl) (Nat.le_of_ble_eq_true rfl) dJ6_stringSize_0f7a4_46 ⟨_, rfl, h⟩
def wJ6_getChars_ba4f3_22 (k : Nat)  (Q : Int32 → Mem → Prop) (E : String → Mem → Prop)  (X72 : Int32 → Int32 → Int32 → Mem → Prop) : Nat → Int32 → Int32 → Int32 → Mem → Prop
  | 0, _, _, _, _ => False
  | n22 + 1, v0, v5, v6, s0 => (((-100) < v0 → X72 v0 v5 v6 s0) ∧ (¬ (-100) < v0 → ∀ v3_2 : Int32, v3_2 = (v0 / 100) → ∀ v4_3 : Int32, v4_3 = ((v3_2 * 100) - v0) → ∀ v5_4 : Int32, v5_4 = (v5 + (-1)) → vp_in v4_3 100 ∧ vp_in v5_4 (s0.2.2.1 k) ∧ ∀ s5 : Mem, s5 = wr s0 16 k v5_4.toNatClampNeg (vp_nar .byte (digOnes v4_3.toNatClampNeg)) → ∀ v5_6 : Int32, v5_6 = (v5_4 + (-1)) → vp_in v4_3 100 ∧ vp_in v5_6 (s5.2.2.1 k) ∧ ∀ s7 : Mem, s7 = wr s5 16 k v5_6.toNatClampNeg (vp_nar .byte (digTens v4_3.toNatClampNeg)) → wJ6_getChars_ba4f3_22 k  Q E X72 n22 v3_2 v5_6 v6 s7))
def wJ6_getChars_ba4f3 (k : Nat) (a1 : Int32) (a2 : Int32) (s0 : Mem) (Q : Int32 → Mem → Prop) (E : String → Mem → Prop) : Prop := ((0 ≤ a1 → ∀ v0_1 : Int32, v0_1 = (-a1) → ∃ m20 : Nat, wJ6_getChars_ba4f3_22 k  Q E (fun (x0_8 : Int32) (x5_9 : Int32) (x6_10 : Int32) (s11 : Mem) => ∀ v5_12 : Int32, v5_12 = (x5_9 + (-1)) → vp_in (-x0_8) 100 ∧ vp_in v5_12 (s11.2.2.1 k) ∧ ∀ s13 : Mem, s13 = wr s11 16 k v5_12.toNatClampNeg (vp_nar .byte (digOnes (-x0_8).toNatClampNeg)) → (((-9) ≤ x0_8 → ((x6_10 = 0 → Q v5_12 s13) ∧ (¬ x6_10 = 0 → ∀ v5_14 : Int32, v5_14 = (v5_12 + (-1)) → vp_in v5_14 (s13.2.2.1 k) ∧ ∀ s15 : Mem, s15 = wr s13 16 k v5_14.toNatClampNeg (vp_nar .byte 45) → Q v5_14 s15))) ∧ (¬ (-9) ≤ x0_8 → ∀ v5_16 : Int32, v5_16 = (v5_12 + (-1)) → vp_in (-x0_8) 100 ∧ vp_in v5_16 (s13.2.2.1 k) ∧ ∀ s17 : Mem, s17 = wr s13 16 k v5_16.toNatClampNeg (vp_nar .byte (digTens (-x0_8).toNatClampNeg)) → ((x6_10 = 0 → Q v5_16 s17) ∧ (¬ x6_10 = 0 → ∀ v5_18 : Int32, v5_18 = (v5_16 + (-1)) → vp_in v5_18 (s17.2.2.1 k) ∧ ∀ s19 : Mem, s19 = wr s17 16 k v5_18.toNatClampNeg (vp_nar .byte 45) → Q v5_18 s19))))) m20 v0_1 a2 0  s0) ∧ (¬ 0 ≤ a1 → ∃ m33 : Nat, wJ6_getChars_ba4f3_22 k  Q E (fun (x0_21 : Int32) (x5_22 : Int32) (x6_23 : Int32) (s24 : Mem) => ∀ v5_25 : Int32, v5_25 = (x5_22 + (-1)) → vp_in (-x0_21) 100 ∧ vp_in v5_25 (s24.2.2.1 k) ∧ ∀ s26 : Mem, s26 = wr s24 16 k v5_25.toNatClampNeg (vp_nar .byte (digOnes (-x0_21).toNatClampNeg)) → (((-9) ≤ x0_21 → ((x6_23 = 0 → Q v5_25 s26) ∧ (¬ x6_23 = 0 → ∀ v5_27 : Int32, v5_27 = (v5_25 + (-1)) → vp_in v5_27 (s26.2.2.1 k) ∧ ∀ s28 : Mem, s28 = wr s26 16 k v5_27.toNatClampNeg (vp_nar .byte 45) → Q v5_27 s28))) ∧ (¬ (-9) ≤ x0_21 → ∀ v5_29 : Int32, v5_29 = (v5_25 + (-1)) → vp_in (-x0_21) 100 ∧ vp_in v5_29 (s26.2.2.1 k) ∧ ∀ s30 : Mem, s30 = wr s26 16 k v5_29.toNatClampNeg (vp_nar .byte (digTens (-x0_21).toNatClampNeg)) → ((x6_23 = 0 → Q v5_29 s30) ∧ (¬ x6_23 = 0 → ∀ v5_31 : Int32, v5_31 = (v5_29 + (-1)) → vp_in v5_31 (s30.2.2.1 k) ∧ ∀ s32 : Mem, s32 = wr s30 16 k v5_31.toNatClampNeg (vp_nar .byte 45) → Q v5_31 s32))))) m33 a1 a2 1  s0))
set_option maxRecDepth 20000 in
set_option maxHeartbeats 4000000 in
theorem oJ6_getChars_ba4f3_22 {K : Fr} {Q : Int32 → Mem → Prop} {E : String → Mem → Prop} (B : Bd K cJ6_getChars_ba4f3 "java/lang/Integer" 7 (some .int) 0 0 0 0 (RI Q) E) (k : Nat)  (hk : k < oCnt (fX K) 16) {X72 : Int32 → Int32 → Int32 → Mem → Prop} {cells slots : Nat} (hX72 : ∀ (y0 : Int32) (y5 : Int32) (y6 : Int32) (τ : Mem), X72 y0 y5 y6 τ → Go K cells slots τ 72 [some (.int y0), none, some (.ref (τ.2.1 k)), none, none, some (.int y5), some (.int y6)] ([])) (hc : cells ≤ 0) (hs : slots ≤ 0) : ∀ (n : Nat) (v0 : Int32) (v5 : Int32) (v6 : Int32) (s0 : Mem), wJ6_getChars_ba4f3_22 k  Q E X72 n v0 v5 v6 s0 → Go K cells slots s0 22 [some (.int v0), none, some (.ref (s0.2.1 k)), none, none, some (.int v5), some (.int v6)] ([]) := by
  intro n
  induction n with
  | zero => intro v0 v5 v6 s0 h; exact absurd h (by simp [wJ6_getChars_ba4f3_22])
  | succ n ih =>
    intro v0 v5 v6 s0 h
    simp only [wJ6_getChars_ba4f3_22] at h
    refine g_iload_n (np := 23) B.1 dJ6_getChars_ba4f3_22 rfl rfl ?_
    refine g_bipush (np := 25) (v := (-100)) B.1 dJ6_getChars_ba4f3_23 (by decide) rfl ?_
    refine g_icmp_gt (np := 28) (tgt := 72) B.1 dJ6_getChars_ba4f3_25 (by decide) rfl (fun q => ?_) (fun q => ?_)
    · replace h := h.1 q
      refine Go.lle [some (.int v0), none, some (.ref (s0.2.1 k)), none, none, some (.int v5), some (.int v6)] (by simp [lle]) ?_
      exact hX72 v0 v5 v6 s0 h
    · replace h := h.2 q
      refine g_iload_n (np := 29) B.1 dJ6_getChars_ba4f3_28 rfl rfl ?_
      refine g_bipush (np := 31) (v := 100) B.1 dJ6_getChars_ba4f3_29 (by decide) rfl ?_
      refine g_idiv (np := 32) B.1 dJ6_getChars_ba4f3_31 (by decide) rfl ?_
      refine g_topi (fun v3_2 ev3_2 => ?_)
      replace h := h v3_2 ev3_2
      refine g_istore_n (np := 33) (lv' := [some (.int v0), none, some (.ref (s0.2.1 k)), some (.int v3_2), none, some (.int v5), some (.int v6)]) B.1 dJ6_getChars_ba4f3_32 (by decide) rfl rfl rfl ?_
      refine g_iload_n (np := 34) B.1 dJ6_getChars_ba4f3_33 rfl rfl ?_
      refine g_bipush (np := 36) (v := 100) B.1 dJ6_getChars_ba4f3_34 (by decide) rfl ?_
      refine g_imul (np := 37) B.1 dJ6_getChars_ba4f3_36 rfl ?_
      refine g_iload_n (np := 38) B.1 dJ6_getChars_ba4f3_37 rfl rfl ?_
      refine g_isub (np := 39) B.1 dJ6_getChars_ba4f3_38 rfl ?_
      refine g_topi (fun v4_3 ev4_3 => ?_)
      replace h := h v4_3 ev4_3
      refine g_istore (np := 41) (lv' := [some (.int v0), none, some (.ref (s0.2.1 k)), some (.int v3_2), some (.int v4_3), some (.int v5), some (.int v6)]) B.1 dJ6_getChars_ba4f3_39 (by decide) rfl rfl rfl ?_
      refine g_iload_n (np := 42) B.1 dJ6_getChars_ba4f3_41 rfl rfl ?_
      refine g_istore_n (np := 43) (lv' := [some (.int v3_2), none, some (.ref (s0.2.1 k)), some (.int v3_2), some (.int v4_3), some (.int v5), some (.int v6)]) B.1 dJ6_getChars_ba4f3_42 (by decide) rfl rfl rfl ?_
      refine g_aload_n (np := 44) B.1 dJ6_getChars_ba4f3_43 rfl rfl ?_
      obtain ⟨v5_4, ev5_4⟩ : ∃ y : Int32, y = v5 + (-1) := ⟨_, rfl⟩
      replace h := h v5_4 ev5_4
      refine g_iinc (np := 47) (v := v5_4) (lv' := [some (.int v3_2), none, some (.ref (s0.2.1 k)), some (.int v3_2), some (.int v4_3), some (.int v5_4), some (.int v6)]) B.1 dJ6_getChars_ba4f3_44 rfl (by rw [ev5_4]; rfl) (by decide) rfl rfl rfl ?_
      refine g_iload (np := 49) B.1 dJ6_getChars_ba4f3_47 rfl rfl ?_
      refine g_digO (np := 52) B.1 b_247 dJ6_getChars_ba4f3_49 rfl ?_
      refine g_iload (np := 54) B.1 dJ6_getChars_ba4f3_52 rfl rfl ?_
      refine g_digOa (np := 55) B.1 h.1 dJ6_getChars_ba4f3_54 rfl ?_
      replace h := h.2
      refine g_bast (np := 56) B.1 k hk h.1 dJ6_getChars_ba4f3_55 rfl ?_
      replace h := h.2
      refine g_mem (fun s5 es5 => ?_)
      replace h := h s5 es5
      refine Go.eq rfl rfl (lv' := [some (.int v3_2), none, some (.ref (s5.2.1 k)), some (.int v3_2), some (.int v4_3), some (.int v5_4), some (.int v6)]) (by subst es5; rfl) (st' := []) (by subst es5; rfl) ?_
      refine g_aload_n (np := 57) B.1 dJ6_getChars_ba4f3_56 rfl rfl ?_
      obtain ⟨v5_6, ev5_6⟩ : ∃ y : Int32, y = v5_4 + (-1) := ⟨_, rfl⟩
      replace h := h v5_6 ev5_6
      refine g_iinc (np := 60) (v := v5_6) (lv' := [some (.int v3_2), none, some (.ref (s5.2.1 k)), some (.int v3_2), some (.int v4_3), some (.int v5_6), some (.int v6)]) B.1 dJ6_getChars_ba4f3_57 rfl (by rw [ev5_6]; rfl) (by decide) rfl rfl rfl ?_
      refine g_iload (np := 62) B.1 dJ6_getChars_ba4f3_60 rfl rfl ?_
      refine g_digT (np := 65) B.1 b_249 dJ6_getChars_ba4f3_62 rfl ?_
      refine g_iload (np := 67) B.1 dJ6_getChars_ba4f3_65 rfl rfl ?_
      refine g_digTa (np := 68) B.1 h.1 dJ6_getChars_ba4f3_67 rfl ?_
      replace h := h.2
      refine g_bast (np := 69) B.1 k hk h.1 dJ6_getChars_ba4f3_68 rfl ?_
      replace h := h.2
      refine g_mem (fun s7 es7 => ?_)
      replace h := h s7 es7
      refine Go.eq rfl rfl (lv' := [some (.int v3_2), none, some (.ref (s7.2.1 k)), some (.int v3_2), some (.int v4_3), some (.int v5_6), some (.int v6)]) (by subst es7; rfl) (st' := []) (by subst es7; rfl) ?_
      refine g_goto (tgt := 22) B.1 dJ6_getChars_ba4f3_69 (by decide) ?_
      refine Go.lle [some (.int v3_2), none, some (.ref (s7.2.1 k)), none, none, some (.int v5_6), some (.int v6)] (by simp [lle]) ?_
      exact ih v3_2 v5_6 v6 s7 h
set_option maxRecDepth 20000 in
set_option maxHeartbeats 4000000 in
theorem oJ6_getChars_ba4f3 {l : Launch} {x : Ctx} (hl : l.stackTraces = false) (k : Nat) (hk : k < oCnt x 16) (a1 : Int32) (a2 : Int32)  (s0 : Mem) (Q : Int32 → Mem → Prop) (E : String → Mem → Prop) (h : wJ6_getChars_ba4f3 k a1 a2 s0 Q E) : MetG l x yJ6_getChars_ba4f3 cJ6_getChars_ba4f3 7 (some .int) 0 0 0 0 [.int a1, .int a2, .ref (s0.2.1 k)] s0 (RI Q) E := by
  refine MetG.of hl (by decide) (Nat.le_of_ble_eq_true rfl) [some (.int a1), some (.int a2), some (.ref (s0.2.1 k)), none, none, none, none] rfl (fun K B hx _ => ?_)
  subst hx
  unfold wJ6_getChars_ba4f3 at h
  refine g_iload_n (np := 1) B.1 dJ6_getChars_ba4f3_0 rfl rfl ?_
  refine g_istore (np := 3) (lv' := [some (.int a1), some (.int a2), some (.ref (s0.2.1 k)), none, none, some (.int a2), none]) B.1 dJ6_getChars_ba4f3_1 (by decide) rfl rfl rfl ?_
  refine g_iload_n (np := 4) B.1 dJ6_getChars_ba4f3_3 rfl rfl ?_
  refine g_if_ge (np := 7) (tgt := 11) B.1 dJ6_getChars_ba4f3_4 (by decide) rfl (fun q => ?_) (fun q => ?_)
  · replace h := h.1 q
    refine g_iconst (np := 12) (v := 0) B.1 dJ6_getChars_ba4f3_11 (by decide) rfl ?_
    refine g_istore (np := 14) (lv' := [some (.int a1), some (.int a2), some (.ref (s0.2.1 k)), none, none, some (.int a2), some (.int 0)]) B.1 dJ6_getChars_ba4f3_12 (by decide) rfl rfl rfl ?_
    refine g_iload (np := 16) B.1 dJ6_getChars_ba4f3_14 rfl rfl ?_
    refine g_if_ne (np := 19) (tgt := 22) B.1 dJ6_getChars_ba4f3_16 (by decide) rfl (fun q => absurd (by decide) q) (fun _ => ?_)
    refine g_iload_n (np := 20) B.1 dJ6_getChars_ba4f3_19 rfl rfl ?_
    refine g_ineg (np := 21) B.1 dJ6_getChars_ba4f3_20 rfl ?_
    refine g_topi (fun v0_1 ev0_1 => ?_)
    replace h := h v0_1 ev0_1
    refine g_istore_n (np := 22) (lv' := [some (.int v0_1), some (.int a2), some (.ref (s0.2.1 k)), none, none, some (.int a2), some (.int 0)]) B.1 dJ6_getChars_ba4f3_21 (by decide) rfl rfl rfl ?_
    obtain ⟨m20, h⟩ := h
    refine Go.lle [some (.int v0_1), none, some (.ref (s0.2.1 k)), none, none, some (.int a2), some (.int 0)] (by simp [lle]) ?_
    refine oJ6_getChars_ba4f3_22 B k  hk (fun x0_8 x5_9 x6_10 s11 h => ?_) (Nat.le_of_ble_eq_true rfl) (Nat.le_of_ble_eq_true rfl) m20 v0_1 a2 0  s0 h
    refine g_aload_n (np := 73) B.1 dJ6_getChars_ba4f3_72 rfl rfl ?_
    obtain ⟨v5_12, ev5_12⟩ : ∃ y : Int32, y = x5_9 + (-1) := ⟨_, rfl⟩
    replace h := h v5_12 ev5_12
    refine g_iinc (np := 76) (v := v5_12) (lv' := [some (.int x0_8), none, some (.ref (s11.2.1 k)), none, none, some (.int v5_12), some (.int x6_10)]) B.1 dJ6_getChars_ba4f3_73 rfl (by rw [ev5_12]; rfl) (by decide) rfl rfl rfl ?_
    refine g_iload (np := 78) B.1 dJ6_getChars_ba4f3_76 rfl rfl ?_
    refine g_digO (np := 81) B.1 b_247 dJ6_getChars_ba4f3_78 rfl ?_
    refine g_iload_n (np := 82) B.1 dJ6_getChars_ba4f3_81 rfl rfl ?_
    refine g_ineg (np := 83) B.1 dJ6_getChars_ba4f3_82 rfl ?_
    refine g_digOa (np := 84) B.1 h.1 dJ6_getChars_ba4f3_83 rfl ?_
    replace h := h.2
    refine g_bast (np := 85) B.1 k hk h.1 dJ6_getChars_ba4f3_84 rfl ?_
    replace h := h.2
    refine g_mem (fun s13 es13 => ?_)
    replace h := h s13 es13
    refine Go.eq rfl rfl (lv' := [some (.int x0_8), none, some (.ref (s13.2.1 k)), none, none, some (.int v5_12), some (.int x6_10)]) (by subst es13; rfl) (st' := []) (by subst es13; rfl) ?_
    refine g_iload_n (np := 86) B.1 dJ6_getChars_ba4f3_85 rfl rfl ?_
    refine g_bipush (np := 88) (v := (-9)) B.1 dJ6_getChars_ba4f3_86 (by decide) rfl ?_
    refine g_icmp_ge (np := 91) (tgt := 104) B.1 dJ6_getChars_ba4f3_88 (by decide) rfl (fun q => ?_) (fun q => ?_)
    · replace h := h.1 q
      refine g_iload (np := 106) B.1 dJ6_getChars_ba4f3_104 rfl rfl ?_
      refine g_if_eq (np := 109) (tgt := 118) B.1 dJ6_getChars_ba4f3_106 (by decide) rfl (fun q => ?_) (fun q => ?_)
      · replace h := h.1 q
        refine g_iload (np := 120) B.1 dJ6_getChars_ba4f3_118 rfl rfl ?_
        exact g_iret B (ty := .int) rfl rfl (Nat.le_of_ble_eq_true rfl) (Nat.le_of_ble_eq_true rfl) dJ6_getChars_ba4f3_120 ⟨_, rfl, h⟩
      · replace h := h.2 q
        refine g_aload_n (np := 110) B.1 dJ6_getChars_ba4f3_109 rfl rfl ?_
        obtain ⟨v5_14, ev5_14⟩ : ∃ y : Int32, y = v5_12 + (-1) := ⟨_, rfl⟩
        replace h := h v5_14 ev5_14
        refine g_iinc (np := 113) (v := v5_14) (lv' := [some (.int x0_8), none, some (.ref (s13.2.1 k)), none, none, some (.int v5_14), some (.int x6_10)]) B.1 dJ6_getChars_ba4f3_110 rfl (by rw [ev5_14]; rfl) (by decide) rfl rfl rfl ?_
        refine g_iload (np := 115) B.1 dJ6_getChars_ba4f3_113 rfl rfl ?_
        refine g_bipush (np := 117) (v := 45) B.1 dJ6_getChars_ba4f3_115 (by decide) rfl ?_
        refine g_bast (np := 118) B.1 k hk h.1 dJ6_getChars_ba4f3_117 rfl ?_
        replace h := h.2
        refine g_mem (fun s15 es15 => ?_)
        replace h := h s15 es15
        refine Go.eq rfl rfl (lv' := [some (.int x0_8), none, some (.ref (s15.2.1 k)), none, none, some (.int v5_14), some (.int x6_10)]) (by subst es15; rfl) (st' := []) (by subst es15; rfl) ?_
        refine g_iload (np := 120) B.1 dJ6_getChars_ba4f3_118 rfl rfl ?_
        exact g_iret B (ty := .int) rfl rfl (Nat.le_of_ble_eq_true rfl) (Nat.le_of_ble_eq_true rfl) dJ6_getChars_ba4f3_120 ⟨_, rfl, h⟩
    · replace h := h.2 q
      refine g_aload_n (np := 92) B.1 dJ6_getChars_ba4f3_91 rfl rfl ?_
      obtain ⟨v5_16, ev5_16⟩ : ∃ y : Int32, y = v5_12 + (-1) := ⟨_, rfl⟩
      replace h := h v5_16 ev5_16
      refine g_iinc (np := 95) (v := v5_16) (lv' := [some (.int x0_8), none, some (.ref (s13.2.1 k)), none, none, some (.int v5_16), some (.int x6_10)]) B.1 dJ6_getChars_ba4f3_92 rfl (by rw [ev5_16]; rfl) (by decide) rfl rfl rfl ?_
      refine g_iload (np := 97) B.1 dJ6_getChars_ba4f3_95 rfl rfl ?_
      refine g_digT (np := 100) B.1 b_249 dJ6_getChars_ba4f3_97 rfl ?_
      refine g_iload_n (np := 101) B.1 dJ6_getChars_ba4f3_100 rfl rfl ?_
      refine g_ineg (np := 102) B.1 dJ6_getChars_ba4f3_101 rfl ?_
      refine g_digTa (np := 103) B.1 h.1 dJ6_getChars_ba4f3_102 rfl ?_
      replace h := h.2
      refine g_bast (np := 104) B.1 k hk h.1 dJ6_getChars_ba4f3_103 rfl ?_
      replace h := h.2
      refine g_mem (fun s17 es17 => ?_)
      replace h := h s17 es17
      refine Go.eq rfl rfl (lv' := [some (.int x0_8), none, some (.ref (s17.2.1 k)), none, none, some (.int v5_16), some (.int x6_10)]) (by subst es17; rfl) (st' := []) (by subst es17; rfl) ?_
      refine g_iload (np := 106) B.1 dJ6_getChars_ba4f3_104 rfl rfl ?_
      refine g_if_eq (np := 109) (tgt := 118) B.1 dJ6_getChars_ba4f3_106 (by decide) rfl (fun q => ?_) (fun q => ?_)
      · replace h := h.1 q
        refine g_iload (np := 120) B.1 dJ6_getChars_ba4f3_118 rfl rfl ?_
        exact g_iret B (ty := .int) rfl rfl (Nat.le_of_ble_eq_true rfl) (Nat.le_of_ble_eq_true rfl) dJ6_getChars_ba4f3_120 ⟨_, rfl, h⟩
      · replace h := h.2 q
        refine g_aload_n (np := 110) B.1 dJ6_getChars_ba4f3_109 rfl rfl ?_
        obtain ⟨v5_18, ev5_18⟩ : ∃ y : Int32, y = v5_16 + (-1) := ⟨_, rfl⟩
        replace h := h v5_18 ev5_18
        refine g_iinc (np := 113) (v := v5_18) (lv' := [some (.int x0_8), none, some (.ref (s17.2.1 k)), none, none, some (.int v5_18), some (.int x6_10)]) B.1 dJ6_getChars_ba4f3_110 rfl (by rw [ev5_18]; rfl) (by decide) rfl rfl rfl ?_
        refine g_iload (np := 115) B.1 dJ6_getChars_ba4f3_113 rfl rfl ?_
        refine g_bipush (np := 117) (v := 45) B.1 dJ6_getChars_ba4f3_115 (by decide) rfl ?_
        refine g_bast (np := 118) B.1 k hk h.1 dJ6_getChars_ba4f3_117 rfl ?_
        replace h := h.2
        refine g_mem (fun s19 es19 => ?_)
        replace h := h s19 es19
        refine Go.eq rfl rfl (lv' := [some (.int x0_8), none, some (.ref (s19.2.1 k)), none, none, some (.int v5_18), some (.int x6_10)]) (by subst es19; rfl) (st' := []) (by subst es19; rfl) ?_
        refine g_iload (np := 120) B.1 dJ6_getChars_ba4f3_118 rfl rfl ?_
        exact g_iret B (ty := .int) rfl rfl (Nat.le_of_ble_eq_true rfl) (Nat.le_of_ble_eq_true rfl) dJ6_getChars_ba4f3_120 ⟨_, rfl, h⟩
  · replace h := h.2 q
    refine g_iconst (np := 8) (v := 1) B.1 dJ6_getChars_ba4f3_7 (by decide) rfl ?_
    refine g_goto (tgt := 12) B.1 dJ6_getChars_ba4f3_8 (by decide) ?_
    refine g_istore (np := 14) (lv' := [some (.int a1), some (.int a2), some (.ref (s0.2.1 k)), none, none, some (.int a2), some (.int 1)]) B.1 dJ6_getChars_ba4f3_12 (by decide) rfl rfl rfl ?_
    refine g_iload (np := 16) B.1 dJ6_getChars_ba4f3_14 rfl rfl ?_
    refine g_if_ne (np := 19) (tgt := 22) B.1 dJ6_getChars_ba4f3_16 (by decide) rfl (fun _ => ?_) (fun q => absurd q (by decide))
    obtain ⟨m33, h⟩ := h
    refine Go.lle [some (.int a1), none, some (.ref (s0.2.1 k)), none, none, some (.int a2), some (.int 1)] (by simp [lle]) ?_
    refine oJ6_getChars_ba4f3_22 B k  hk (fun x0_21 x5_22 x6_23 s24 h => ?_) (Nat.le_of_ble_eq_true rfl) (Nat.le_of_ble_eq_true rfl) m33 a1 a2 1  s0 h
    refine g_aload_n (np := 73) B.1 dJ6_getChars_ba4f3_72 rfl rfl ?_
    obtain ⟨v5_25, ev5_25⟩ : ∃ y : Int32, y = x5_22 + (-1) := ⟨_, rfl⟩
    replace h := h v5_25 ev5_25
    refine g_iinc (np := 76) (v := v5_25) (lv' := [some (.int x0_21), none, some (.ref (s24.2.1 k)), none, none, some (.int v5_25), some (.int x6_23)]) B.1 dJ6_getChars_ba4f3_73 rfl (by rw [ev5_25]; rfl) (by decide) rfl rfl rfl ?_
    refine g_iload (np := 78) B.1 dJ6_getChars_ba4f3_76 rfl rfl ?_
    refine g_digO (np := 81) B.1 b_247 dJ6_getChars_ba4f3_78 rfl ?_
    refine g_iload_n (np := 82) B.1 dJ6_getChars_ba4f3_81 rfl rfl ?_
    refine g_ineg (np := 83) B.1 dJ6_getChars_ba4f3_82 rfl ?_
    refine g_digOa (np := 84) B.1 h.1 dJ6_getChars_ba4f3_83 rfl ?_
    replace h := h.2
    refine g_bast (np := 85) B.1 k hk h.1 dJ6_getChars_ba4f3_84 rfl ?_
    replace h := h.2
    refine g_mem (fun s26 es26 => ?_)
    replace h := h s26 es26
    refine Go.eq rfl rfl (lv' := [some (.int x0_21), none, some (.ref (s26.2.1 k)), none, none, some (.int v5_25), some (.int x6_23)]) (by subst es26; rfl) (st' := []) (by subst es26; rfl) ?_
    refine g_iload_n (np := 86) B.1 dJ6_getChars_ba4f3_85 rfl rfl ?_
    refine g_bipush (np := 88) (v := (-9)) B.1 dJ6_getChars_ba4f3_86 (by decide) rfl ?_
    refine g_icmp_ge (np := 91) (tgt := 104) B.1 dJ6_getChars_ba4f3_88 (by decide) rfl (fun q => ?_) (fun q => ?_)
    · replace h := h.1 q
      refine g_iload (np := 106) B.1 dJ6_getChars_ba4f3_104 rfl rfl ?_
      refine g_if_eq (np := 109) (tgt := 118) B.1 dJ6_getChars_ba4f3_106 (by decide) rfl (fun q => ?_) (fun q => ?_)
      · replace h := h.1 q
        refine g_iload (np := 120) B.1 dJ6_getChars_ba4f3_118 rfl rfl ?_
        exact g_iret B (ty := .int) rfl rfl (Nat.le_of_ble_eq_true rfl) (Nat.le_of_ble_eq_true rfl) dJ6_getChars_ba4f3_120 ⟨_, rfl, h⟩
      · replace h := h.2 q
        refine g_aload_n (np := 110) B.1 dJ6_getChars_ba4f3_109 rfl rfl ?_
        obtain ⟨v5_27, ev5_27⟩ : ∃ y : Int32, y = v5_25 + (-1) := ⟨_, rfl⟩
        replace h := h v5_27 ev5_27
        refine g_iinc (np := 113) (v := v5_27) (lv' := [some (.int x0_21), none, some (.ref (s26.2.1 k)), none, none, some (.int v5_27), some (.int x6_23)]) B.1 dJ6_getChars_ba4f3_110 rfl (by rw [ev5_27]; rfl) (by decide) rfl rfl rfl ?_
        refine g_iload (np := 115) B.1 dJ6_getChars_ba4f3_113 rfl rfl ?_
        refine g_bipush (np := 117) (v := 45) B.1 dJ6_getChars_ba4f3_115 (by decide) rfl ?_
        refine g_bast (np := 118) B.1 k hk h.1 dJ6_getChars_ba4f3_117 rfl ?_
        replace h := h.2
        refine g_mem (fun s28 es28 => ?_)
        replace h := h s28 es28
        refine Go.eq rfl rfl (lv' := [some (.int x0_21), none, some (.ref (s28.2.1 k)), none, none, some (.int v5_27), some (.int x6_23)]) (by subst es28; rfl) (st' := []) (by subst es28; rfl) ?_
        refine g_iload (np := 120) B.1 dJ6_getChars_ba4f3_118 rfl rfl ?_
        exact g_iret B (ty := .int) rfl rfl (Nat.le_of_ble_eq_true rfl) (Nat.le_of_ble_eq_true rfl) dJ6_getChars_ba4f3_120 ⟨_, rfl, h⟩
    · replace h := h.2 q
      refine g_aload_n (np := 92) B.1 dJ6_getChars_ba4f3_91 rfl rfl ?_
      obtain ⟨v5_29, ev5_29⟩ : ∃ y : Int32, y = v5_25 + (-1) := ⟨_, rfl⟩
      replace h := h v5_29 ev5_29
      refine g_iinc (np := 95) (v := v5_29) (lv' := [some (.int x0_21), none, some (.ref (s26.2.1 k)), none, none, some (.int v5_29), some (.int x6_23)]) B.1 dJ6_getChars_ba4f3_92 rfl (by rw [ev5_29]; rfl) (by decide) rfl rfl rfl ?_
      refine g_iload (np := 97) B.1 dJ6_getChars_ba4f3_95 rfl rfl ?_
      refine g_digT (np := 100) B.1 b_249 dJ6_getChars_ba4f3_97 rfl ?_
      refine g_iload_n (np := 101) B.1 dJ6_getChars_ba4f3_100 rfl rfl ?_
      refine g_ineg (np := 102) B.1 dJ6_getChars_ba4f3_101 rfl ?_
      refine g_digTa (np := 103) B.1 h.1 dJ6_getChars_ba4f3_102 rfl ?_
      replace h := h.2
      refine g_bast (np := 104) B.1 k hk h.1 dJ6_getChars_ba4f3_103 rfl ?_
      replace h := h.2
      refine g_mem (fun s30 es30 => ?_)
      replace h := h s30 es30
      refine Go.eq rfl rfl (lv' := [some (.int x0_21), none, some (.ref (s30.2.1 k)), none, none, some (.int v5_29), some (.int x6_23)]) (by subst es30; rfl) (st' := []) (by subst es30; rfl) ?_
      refine g_iload (np := 106) B.1 dJ6_getChars_ba4f3_104 rfl rfl ?_
      refine g_if_eq (np := 109) (tgt := 118) B.1 dJ6_getChars_ba4f3_106 (by decide) rfl (fun q => ?_) (fun q => ?_)
      · replace h := h.1 q
        refine g_iload (np := 120) B.1 dJ6_getChars_ba4f3_118 rfl rfl ?_
        exact g_iret B (ty := .int) rfl rfl (Nat.le_of_ble_eq_true rfl) (Nat.le_of_ble_eq_true rfl) dJ6_getChars_ba4f3_120 ⟨_, rfl, h⟩
      · replace h := h.2 q
        refine g_aload_n (np := 110) B.1 dJ6_getChars_ba4f3_109 rfl rfl ?_
        obtain ⟨v5_31, ev5_31⟩ : ∃ y : Int32, y = v5_29 + (-1) := ⟨_, rfl⟩
        replace h := h v5_31 ev5_31
        refine g_iinc (np := 113) (v := v5_31) (lv' := [some (.int x0_21), none, some (.ref (s30.2.1 k)), none, none, some (.int v5_31), some (.int x6_23)]) B.1 dJ6_getChars_ba4f3_110 rfl (by rw [ev5_31]; rfl) (by decide) rfl rfl rfl ?_
        refine g_iload (np := 115) B.1 dJ6_getChars_ba4f3_113 rfl rfl ?_
        refine g_bipush (np := 117) (v := 45) B.1 dJ6_getChars_ba4f3_115 (by decide) rfl ?_
        refine g_bast (np := 118) B.1 k hk h.1 dJ6_getChars_ba4f3_117 rfl ?_
        replace h := h.2
        refine g_mem (fun s32 es32 => ?_)
        replace h := h s32 es32
        refine Go.eq rfl rfl (lv' := [some (.int x0_21), none, some (.ref (s32.2.1 k)), none, none, some (.int v5_31), some (.int x6_23)]) (by subst es32; rfl) (st' := []) (by subst es32; rfl) ?_
        refine g_iload (np := 120) B.1 dJ6_getChars_ba4f3_118 rfl rfl ?_
        exact g_iret B (ty := .int) rfl rfl (Nat.le_of_ble_eq_true rfl) (Nat.le_of_ble_eq_true rfl) dJ6_getChars_ba4f3_120 ⟨_, rfl, h⟩
